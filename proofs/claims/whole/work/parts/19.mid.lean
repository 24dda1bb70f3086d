def metP (ez : Nat) (la ma : Int32) (gn : Nat) (E : Prop) : Prop := la ≤ nI gn ∧ nI gn ≤ ma ∧ (ez = 1 → E) ∧ (ez = 2 → ¬ E)
def bto (o : Option Nat) : Nat := match o with
  | none => 46
  | some v => 49 + v
theorem hasT {N : Nat} {c : Int32} (h : ¬ c < 0) (h2 : ¬ nI N ≤ c) (hN : N < 2147483648) : ∃ j, j < N ∧ c = nI j := by
  rcases pk_ix c hN with q | q | q
  · exact absurd q h
  · exact absurd q h2
  · exact q
theorem uO_S {i x : Nat} {l w : Nat → Nat} (h : ∀ c, c < i → l c = w c) (e : x = w i) : ∀ c, c < i + 1 → uO l i x c = w c := by
  intro c q
  unfold uO
  by_cases q2 : c = i
  · rw [if_pos q2, q2]; exact e
  · rw [if_neg q2]; exact h c (by omega)
theorem enP_skip {c k : Nat} {b : Nat → Option Nat} {o : Nat → Nat} (h : enP c b o k) (hc : b c ≠ none) : enP (c + 1) b o k :=
  ⟨fun j q => ⟨by have := (h.1 j q).1; omega, (h.1 j q).2⟩, fun d q1 q2 => by
    by_cases e : d = c
    · rw [e] at q2; exact absurd q2 hc
    · exact h.2.1 d (by omega) q2, h.2.2⟩
theorem enP_add {c k : Nat} {b : Nat → Option Nat} {o : Nat → Nat} (h : enP c b o k) (hc : b c = none) : enP (c + 1) b (uO o k c) (k + 1) := by
  have v : ∀ j, j < k → uO o k c j = o j := fun j q => by unfold uO; rw [if_neg (by omega)]
  have vk : uO o k c k = c := by unfold uO; rw [if_pos rfl]
  refine ⟨fun j q => ?_, fun d q1 q2 => ?_, fun i j q1 q2 e => ?_⟩
  · by_cases e : j = k
    · rw [e, vk]; exact ⟨by omega, hc⟩
    · rw [v j (by omega)]
      exact ⟨by have := (h.1 j (by omega)).1; omega, (h.1 j (by omega)).2⟩
  · by_cases e : d = c
    · exact ⟨k, by omega, by rw [vk, e]⟩
    · obtain ⟨j, q3, q4⟩ := h.2.1 d (by omega) q2
      exact ⟨j, by omega, by rw [v j q3]; exact q4⟩
  · by_cases e1 : i = k
    · by_cases e2 : j = k
      · omega
      · rw [e1, vk, v j (by omega)] at e
        have := (h.1 j (by omega)).1
        omega
    · by_cases e2 : j = k
      · rw [e2, vk, v i (by omega)] at e
        have := (h.1 i (by omega)).1
        omega
      · rw [v i (by omega), v j (by omega)] at e
        exact h.2.2 i j (by omega) (by omega) e
theorem fX8_count_21 : Cond.fieldLink RX8 21 (TX8 0).1 (TX8 0).2.1 (TX8 0).2.2.1 ∈ wsX8_count := List.mem_of_getElem? (i := 1) rfl
theorem iX8_count_X8 : ∀ w ∈ wsX80, w ∈ wsX8_count := by decide +kernel
theorem fX8_count_30 : Cond.fieldLink RX8 30 (TX8 1).1 (TX8 1).2.1 (TX8 1).2.2.1 ∈ wsX8_count := List.mem_of_getElem? (i := 2) rfl
theorem fX8_count_7 : Cond.fieldLink RX8 7 (TX8 2).1 (TX8 2).2.1 (TX8 2).2.2.1 ∈ wsX8_count := List.mem_of_getElem? (i := 3) rfl
theorem fX8_count_13 : Cond.fieldLink RX8 13 (TX8 3).1 (TX8 3).2.1 (TX8 3).2.2.1 ∈ wsX8_count := List.mem_of_getElem? (i := 4) rfl
set_option maxHeartbeats 4000000 in
set_option maxRecDepth 100000 in
theorem c_X8_count {g : ww_G} {l : Launch} {n : Nat} {N : Nat} {aG : Nat} {gr : Nat} {gc : Nat} {gb : Nat} {gu : Nat} {aB : Nat} {aS : Nat} {aR : Nat} {aC : Nat} {aX : Nat} {f : Nat → Int32} {fR : Nat → Int32} {fC : Nat → Int32} {fB : Nat → Int32} {aW : Nat} {aO : Nat} {lim : Nat} {fd : Nat} {o : Nat → Nat} {aV : Nat} {gv : Nat → Option Nat} {most : Nat} (hn : (n = 4 ∧ N = 16) ∨ (n = 6 ∧ N = 36)) (hok : okB n N gv) (hm0 : 0 < most) (hm1 : most < 2147483648) : CT g l yX8_count wsX8_count (ww_rm 60) [.ref aW, .ref aV, .int (nI most)] ([(aW, .inr (9, [.ref aB, .ref aO, .int (nI lim), .int (nI fd)])), (aO, .inl (g.2.1, N, .inl (nO o))), (aG, .inr (5, [.int (nI n), .int (nI N), .int (nI (2 ^ n - 1)), .ref gr, .ref gc, .ref gb, .ref gu])), (gr, .inl (g.2.1, N, .inl (gR n))), (gc, .inl (g.2.1, N, .inl (gC n))), (gb, .inl (g.2.1, N, .inl (gB n))), (aB, .inr (2, [.ref aG, .ref aS, .ref aR, .ref aC, .ref aX])), (aS, .inl (g.2.1, N, .inl f)), (aR, .inl (g.2.1, n, .inl fR)), (aC, .inl (g.2.1, n, .inl fC)), (aX, .inl (g.2.1, n, .inl fB)), (aV, .inl (g.2.1, N, .inl (eb gv)))]) (S := (Nat → Nat)) (fun v u => v = some (.int (nI (min most (0 + cntS n N gv))))) (fun u => [(aW, .inr (9, [.ref aB, .ref aO, .int (nI most), .int (nI (min most (0 + cntS n N gv)))])), (aO, .inl (g.2.1, N, .inl (nO u))), (aG, .inr (5, [.int (nI n), .int (nI N), .int (nI (2 ^ n - 1)), .ref gr, .ref gc, .ref gb, .ref gu])), (gr, .inl (g.2.1, N, .inl (gR n))), (gc, .inl (g.2.1, N, .inl (gC n))), (gb, .inl (g.2.1, N, .inl (gB n))), (aB, .inr (2, [.ref aG, .ref aS, .ref aR, .ref aC, .ref aX])), (aS, .inl (g.2.1, N, .inl (eb gv))), (aR, .inl (g.2.1, n, .inl (mR n N gv))), (aC, .inl (g.2.1, n, .inl (mC n N gv))), (aX, .inl (g.2.1, n, .inl (mB n N gv))), (aV, .inl (g.2.1, N, .inl (eb gv)))]) := by
  refine CT.of cX8_count 5 (some .int) RX8 (by decide +kernel) rfl rfl (Nat.le_of_ble_eq_true rfl) ?_
  intro X hg hl C hret
  subst hg; subst hl
  show RW X 0 0 0 [(0, .ref aW), (1, .ref aV), (2, .int (nI most))] [] [(aW, .inr (9, [.ref aB, .ref aO, .int (nI lim), .int (nI fd)])), (aO, .inl (X.1.2.1, N, .inl (nO o))), (aG, .inr (5, [.int (nI n), .int (nI N), .int (nI (2 ^ n - 1)), .ref gr, .ref gc, .ref gb, .ref gu])), (gr, .inl (X.1.2.1, N, .inl (gR n))), (gc, .inl (X.1.2.1, N, .inl (gC n))), (gb, .inl (X.1.2.1, N, .inl (gB n))), (aB, .inr (2, [.ref aG, .ref aS, .ref aR, .ref aC, .ref aX])), (aS, .inl (X.1.2.1, N, .inl f)), (aR, .inl (X.1.2.1, n, .inl fR)), (aC, .inl (X.1.2.1, n, .inl fC)), (aX, .inl (X.1.2.1, n, .inl fB)), (aV, .inl (X.1.2.1, N, .inl (eb gv)))]
  refine r_aload_n C dX8_count_0 0 rfl rfl ?_
  refine r_get C dX8_count_1 iX8_count_X8 0 fX8_count_21 0 rfl rfl (by decide) rfl ?_
  refine r_aload_n C dX8_count_4 1 rfl rfl ?_
  refine r_callV0 (n := 1) (ws' := fun u => [(aW, .inr (9, [.ref aB, .ref aO, .int (nI lim), .int (nI fd)])), (aO, .inl (X.1.2.1, N, .inl (nO o))), (aG, .inr (5, [.int (nI n), .int (nI N), .int (nI (2 ^ n - 1)), .ref gr, .ref gc, .ref gb, .ref gu])), (gr, .inl (X.1.2.1, N, .inl (gR n))), (gc, .inl (X.1.2.1, N, .inl (gC n))), (gb, .inl (X.1.2.1, N, .inl (gB n))), (aB, .inr (2, [.ref aG, .ref aS, .ref aR, .ref aC, .ref aX])), (aS, .inl (X.1.2.1, N, .inl (eb gv))), (aR, .inl (X.1.2.1, n, .inl (mR n N gv))), (aC, .inl (X.1.2.1, n, .inl (mC n N gv))), (aX, .inl (X.1.2.1, n, .inl (mB n N gv))), (aV, .inl (X.1.2.1, N, .inl (eb gv)))]) C dX8_count_5 (c_X1_putAll (g := X.1) (l := X.2.2.1) (n := n) (N := N) (aG := aG) (gr := gr) (gc := gc) (gb := gb) (gu := gu) (aB := aB) (aS := aS) (aR := aR) (aC := aC) (aX := aX) (f := f) (fR := fR) (fC := fC) (fB := fB) (aV := aV) (gv := gv) (hn := (by first | assumption | omega)) (hok := (by first | assumption | omega))) gX8_count_X1_putAll rfl (by decide +kernel) rfl ⟨Nat.le_of_ble_eq_true rfl, Nat.le_of_ble_eq_true rfl⟩ ⟨rfl, rfl⟩ ⟨Nat.zero_le _, Nat.zero_le _⟩ (rest := []) rfl (by decide) 4 rfl rfl [2, 3, 4, 5, 6, 7, 8, 9, 10, 11] (by decide) rfl (fun u => rfl) (fun u => rfl) (fun v u hp => ?_)
  obtain rfl := hp
  show RW X 0 0 8 [(0, .ref aW), (1, .ref aV), (2, .int (nI most))] [] [(aW, .inr (9, [.ref aB, .ref aO, .int (nI lim), .int (nI fd)])), (aO, .inl (X.1.2.1, N, .inl (nO o))), (aG, .inr (5, [.int (nI n), .int (nI N), .int (nI (2 ^ n - 1)), .ref gr, .ref gc, .ref gb, .ref gu])), (gr, .inl (X.1.2.1, N, .inl (gR n))), (gc, .inl (X.1.2.1, N, .inl (gC n))), (gb, .inl (X.1.2.1, N, .inl (gB n))), (aB, .inr (2, [.ref aG, .ref aS, .ref aR, .ref aC, .ref aX])), (aS, .inl (X.1.2.1, N, .inl (eb gv))), (aR, .inl (X.1.2.1, n, .inl (mR n N gv))), (aC, .inl (X.1.2.1, n, .inl (mC n N gv))), (aX, .inl (X.1.2.1, n, .inl (mB n N gv))), (aV, .inl (X.1.2.1, N, .inl (eb gv)))]
  refine r_iconst C dX8_count_8 (v := nI 0) (by decide) ?_
  refine r_istore_n C dX8_count_9 rfl (by decide) [1, 2, 3, 0] (lv' := [(0, .ref aW), (1, .ref aV), (2, .int (nI most)), (3, .int (nI 0))]) rfl ?_
  refine r_iconst C dX8_count_10 (v := nI 0) (by decide) ?_
  refine r_istore C dX8_count_11 (by decide) [1, 2, 3, 4, 0] (lv' := [(0, .ref aW), (1, .ref aV), (2, .int (nI most)), (3, .int (nI 0)), (4, .int (nI 0))]) rfl ?_
  have L13 : ∀ (d13 : Nat) (k : Nat) (c : Nat) (o1 : Nat → Nat), (N - c) < d13 → (c ≤ N) → (k ≤ c) → (enP c gv o1 k) → RW X 0 0 13 [(0, .ref aW), (1, .ref aV), (2, .int (nI most)), (3, .int (nI k)), (4, .int (nI c))] [] [(aW, .inr (9, [.ref aB, .ref aO, .int (nI lim), .int (nI fd)])), (aO, .inl (X.1.2.1, N, .inl (nO o1))), (aG, .inr (5, [.int (nI n), .int (nI N), .int (nI (2 ^ n - 1)), .ref gr, .ref gc, .ref gb, .ref gu])), (gr, .inl (X.1.2.1, N, .inl (gR n))), (gc, .inl (X.1.2.1, N, .inl (gC n))), (gb, .inl (X.1.2.1, N, .inl (gB n))), (aB, .inr (2, [.ref aG, .ref aS, .ref aR, .ref aC, .ref aX])), (aS, .inl (X.1.2.1, N, .inl (eb gv))), (aR, .inl (X.1.2.1, n, .inl (mR n N gv))), (aC, .inl (X.1.2.1, n, .inl (mC n N gv))), (aX, .inl (X.1.2.1, n, .inl (mB n N gv))), (aV, .inl (X.1.2.1, N, .inl (eb gv)))] := by
    intro d13
    induction d13 with
    | zero => intro k c o1 hd13; exact absurd hd13 (Nat.not_lt_zero _)
    | succ d13 ih13 =>
      intro k c o1 hd13 hc hkc hen
      refine r_iload C dX8_count_13 4 rfl ?_
      refine r_aload_n C dX8_count_15 0 rfl rfl ?_
      refine r_get C dX8_count_16 iX8_count_X8 1 fX8_count_30 0 rfl rfl (by decide) rfl ?_
      refine r_alen C dX8_count_19 1 0 rfl rfl (v := nI N) rfl ?_
      refine r_icmp_ge (tgt := 52) C dX8_count_20 (by decide) (fun h20 => ?_) (fun h20 => ?_)
      · have h20 : N ≤ c := (nI_leI (by omega) (by omega)).mp h20
        refine r_aload_n C dX8_count_52 0 rfl rfl ?_
        refine r_iload_n C dX8_count_53 2 rfl rfl ?_
        refine r_put C dX8_count_54 iX8_count_X8 tyX8 tyX8_ok nmX8 2 fX8_count_7 0 rfl rfl (by decide) rfl rfl rfl rfl (Nat.le_of_ble_eq_true rfl) (ws' := [(aW, .inr (9, [.ref aB, .ref aO, .int (nI most), .int (nI fd)])), (aO, .inl (X.1.2.1, N, .inl (nO o1))), (aG, .inr (5, [.int (nI n), .int (nI N), .int (nI (2 ^ n - 1)), .ref gr, .ref gc, .ref gb, .ref gu])), (gr, .inl (X.1.2.1, N, .inl (gR n))), (gc, .inl (X.1.2.1, N, .inl (gC n))), (gb, .inl (X.1.2.1, N, .inl (gB n))), (aB, .inr (2, [.ref aG, .ref aS, .ref aR, .ref aC, .ref aX])), (aS, .inl (X.1.2.1, N, .inl (eb gv))), (aR, .inl (X.1.2.1, n, .inl (mR n N gv))), (aC, .inl (X.1.2.1, n, .inl (mC n N gv))), (aX, .inl (X.1.2.1, n, .inl (mB n N gv))), (aV, .inl (X.1.2.1, N, .inl (eb gv)))]) rfl ?_
        refine r_aload_n C dX8_count_57 0 rfl rfl ?_
        refine r_iconst C dX8_count_58 (v := nI 0) (by decide) ?_
        refine r_put C dX8_count_59 iX8_count_X8 tyX8 tyX8_ok nmX8 3 fX8_count_13 0 rfl rfl (by decide) rfl rfl rfl rfl (Nat.le_of_ble_eq_true rfl) (ws' := [(aW, .inr (9, [.ref aB, .ref aO, .int (nI most), .int (nI 0)])), (aO, .inl (X.1.2.1, N, .inl (nO o1))), (aG, .inr (5, [.int (nI n), .int (nI N), .int (nI (2 ^ n - 1)), .ref gr, .ref gc, .ref gb, .ref gu])), (gr, .inl (X.1.2.1, N, .inl (gR n))), (gc, .inl (X.1.2.1, N, .inl (gC n))), (gb, .inl (X.1.2.1, N, .inl (gB n))), (aB, .inr (2, [.ref aG, .ref aS, .ref aR, .ref aC, .ref aX])), (aS, .inl (X.1.2.1, N, .inl (eb gv))), (aR, .inl (X.1.2.1, n, .inl (mR n N gv))), (aC, .inl (X.1.2.1, n, .inl (mC n N gv))), (aX, .inl (X.1.2.1, n, .inl (mB n N gv))), (aV, .inl (X.1.2.1, N, .inl (eb gv)))]) rfl ?_
        refine r_aload_n C dX8_count_62 0 rfl rfl ?_
        refine r_iload_n C dX8_count_63 3 rfl rfl ?_
        have hen2 : enP N gv o1 k := by rw [show N = c by omega]; exact hen
        refine r_callV0 (n := 1) (ws' := fun u => [(aW, .inr (9, [.ref aB, .ref aO, .int (nI most), .int (nI (min most (0 + cntS n N gv)))])), (aO, .inl (X.1.2.1, N, .inl (nO u))), (aG, .inr (5, [.int (nI n), .int (nI N), .int (nI (2 ^ n - 1)), .ref gr, .ref gc, .ref gb, .ref gu])), (gr, .inl (X.1.2.1, N, .inl (gR n))), (gc, .inl (X.1.2.1, N, .inl (gC n))), (gb, .inl (X.1.2.1, N, .inl (gB n))), (aB, .inr (2, [.ref aG, .ref aS, .ref aR, .ref aC, .ref aX])), (aS, .inl (X.1.2.1, N, .inl (eb gv))), (aR, .inl (X.1.2.1, n, .inl (mR n N gv))), (aC, .inl (X.1.2.1, n, .inl (mC n N gv))), (aX, .inl (X.1.2.1, n, .inl (mB n N gv))), (aV, .inl (X.1.2.1, N, .inl (eb gv)))]) C dX8_count_64 (c_X8_search (g := X.1) (l := X.2.2.1) (n := n) (N := N) (aG := aG) (gr := gr) (gc := gc) (gb := gb) (gu := gu) (aB := aB) (aS := aS) (aR := aR) (aC := aC) (aX := aX) (b := gv) (aW := aW) (aO := aO) (lim := most) (fd := 0) (o := o1) (k := k) (hn := (by first | assumption | omega)) (hk := (by omega)) (hok := (by first | assumption | omega)) (hen := hen2) (hfl := (by omega)) (hlim := (by first | assumption | omega))) gX8_count_X8_search rfl (by decide +kernel) rfl (by constructor <;> (simp only [ww_rm]; omega)) ⟨rfl, rfl⟩ ⟨Nat.zero_le _, Nat.zero_le _⟩ (rest := []) rfl (by decide) 0 rfl rfl [0, 1, 2, 3, 4, 5, 6, 7, 8, 9, 10] (by decide) rfl (fun u => rfl) (fun u => rfl) (fun v u hp => ?_)
        obtain ⟨o9_2, rfl⟩ : ∃ z, z = u := ⟨_, rfl⟩
        obtain ⟨rfl, p64_0, p64_1⟩ := hp
        show RW X 0 0 67 [(0, .ref aW), (1, .ref aV), (2, .int (nI most)), (3, .int (nI k)), (4, .int (nI c))] [] [(aW, .inr (9, [.ref aB, .ref aO, .int (nI most), .int (nI (min most (0 + cntS n N gv)))])), (aO, .inl (X.1.2.1, N, .inl (nO o9_2))), (aG, .inr (5, [.int (nI n), .int (nI N), .int (nI (2 ^ n - 1)), .ref gr, .ref gc, .ref gb, .ref gu])), (gr, .inl (X.1.2.1, N, .inl (gR n))), (gc, .inl (X.1.2.1, N, .inl (gC n))), (gb, .inl (X.1.2.1, N, .inl (gB n))), (aB, .inr (2, [.ref aG, .ref aS, .ref aR, .ref aC, .ref aX])), (aS, .inl (X.1.2.1, N, .inl (eb gv))), (aR, .inl (X.1.2.1, n, .inl (mR n N gv))), (aC, .inl (X.1.2.1, n, .inl (mC n N gv))), (aX, .inl (X.1.2.1, n, .inl (mB n N gv))), (aV, .inl (X.1.2.1, N, .inl (eb gv)))]
        refine r_aload_n C dX8_count_67 0 rfl rfl ?_
        refine r_get C dX8_count_68 iX8_count_X8 3 fX8_count_13 0 rfl rfl (by decide) rfl ?_
        exact hret _ _ _ (o9_2) rfl (Or.inr ⟨_, rfl, dX8_count_71, Or.inl rfl⟩)
      · have h20 : ¬ (N ≤ c) := fun e9 => h20 ((nI_leI (by omega) (by omega)).mpr e9)
        refine r_aload_n C dX8_count_23 0 rfl rfl ?_
        refine r_get C dX8_count_24 iX8_count_X8 0 fX8_count_21 0 rfl rfl (by decide) rfl ?_
        refine r_iload C dX8_count_27 4 rfl ?_
        refine r_callV0 (n := 1) (ws' := fun u => [(aW, .inr (9, [.ref aB, .ref aO, .int (nI lim), .int (nI fd)])), (aO, .inl (X.1.2.1, N, .inl (nO o1))), (aG, .inr (5, [.int (nI n), .int (nI N), .int (nI (2 ^ n - 1)), .ref gr, .ref gc, .ref gb, .ref gu])), (gr, .inl (X.1.2.1, N, .inl (gR n))), (gc, .inl (X.1.2.1, N, .inl (gC n))), (gb, .inl (X.1.2.1, N, .inl (gB n))), (aB, .inr (2, [.ref aG, .ref aS, .ref aR, .ref aC, .ref aX])), (aS, .inl (X.1.2.1, N, .inl (eb gv))), (aR, .inl (X.1.2.1, n, .inl (mR n N gv))), (aC, .inl (X.1.2.1, n, .inl (mC n N gv))), (aX, .inl (X.1.2.1, n, .inl (mB n N gv))), (aV, .inl (X.1.2.1, N, .inl (eb gv)))]) C dX8_count_29 (c_X1_isEmpty (g := X.1) (l := X.2.2.1) (N := N) (aG := aG) (aB := aB) (aS := aS) (aR := aR) (aC := aC) (aX := aX) (f := eb gv) (c := c) (hN := (by omega)) (hc := (by omega))) gX8_count_X1_isEmpty rfl (by decide +kernel) rfl ⟨Nat.le_of_ble_eq_true rfl, Nat.le_of_ble_eq_true rfl⟩ ⟨rfl, rfl⟩ ⟨Nat.zero_le _, Nat.zero_le _⟩ (rest := []) rfl (by decide) 0 rfl rfl [6, 7] (by decide) rfl (fun u => rfl) (fun u => rfl) (fun v u hp => ?_)
        obtain rfl := hp
        show RW X 0 0 32 [(0, .ref aW), (1, .ref aV), (2, .int (nI most)), (3, .int (nI k)), (4, .int (nI c))] [.int (bz ((eb gv) c < 0))] [(aW, .inr (9, [.ref aB, .ref aO, .int (nI lim), .int (nI fd)])), (aO, .inl (X.1.2.1, N, .inl (nO o1))), (aG, .inr (5, [.int (nI n), .int (nI N), .int (nI (2 ^ n - 1)), .ref gr, .ref gc, .ref gb, .ref gu])), (gr, .inl (X.1.2.1, N, .inl (gR n))), (gc, .inl (X.1.2.1, N, .inl (gC n))), (gb, .inl (X.1.2.1, N, .inl (gB n))), (aB, .inr (2, [.ref aG, .ref aS, .ref aR, .ref aC, .ref aX])), (aS, .inl (X.1.2.1, N, .inl (eb gv))), (aR, .inl (X.1.2.1, n, .inl (mR n N gv))), (aC, .inl (X.1.2.1, n, .inl (mC n N gv))), (aX, .inl (X.1.2.1, n, .inl (mB n N gv))), (aV, .inl (X.1.2.1, N, .inl (eb gv)))]
        refine r_if_eq (tgt := 46) C dX8_count_32 (by decide) (fun h32 => ?_) (fun h32 => ?_)
        · have h32 : ¬ ((eb gv) c < 0) := bz_0.mp h32
          refine r_iinc C dX8_count_46 4 rfl (v := nI (c + 1)) (nI_add _ _) (by decide) [1, 2, 3, 4, 0] (lv' := [(0, .ref aW), (1, .ref aV), (2, .int (nI most)), (3, .int (nI k)), (4, .int (nI (c + 1)))]) rfl ?_
          refine r_goto (tgt := 13) C dX8_count_49 (by decide) ?_
          exact ih13 k (c + 1) o1 (by omega) (by omega) (by omega) (enP_skip hen (fun e => h32 (by show eo (gv c) < 0; rw [e]; decide)))
        · have h32 : (eb gv) c < 0 := bz_n0.mp h32
          refine r_aload_n C dX8_count_35 0 rfl rfl ?_
          refine r_get C dX8_count_36 iX8_count_X8 1 fX8_count_30 0 rfl rfl (by decide) rfl ?_
          refine r_iload_n C dX8_count_39 3 rfl rfl ?_
          refine r_iload C dX8_count_40 4 rfl ?_
          refine r_iast C dX8_count_42 1 rfl (by omega) (by omega) (ws' := [(aW, .inr (9, [.ref aB, .ref aO, .int (nI lim), .int (nI fd)])), (aO, .inl (X.1.2.1, N, .inl (upd (nO o1) k (nI c)))), (aG, .inr (5, [.int (nI n), .int (nI N), .int (nI (2 ^ n - 1)), .ref gr, .ref gc, .ref gb, .ref gu])), (gr, .inl (X.1.2.1, N, .inl (gR n))), (gc, .inl (X.1.2.1, N, .inl (gC n))), (gb, .inl (X.1.2.1, N, .inl (gB n))), (aB, .inr (2, [.ref aG, .ref aS, .ref aR, .ref aC, .ref aX])), (aS, .inl (X.1.2.1, N, .inl (eb gv))), (aR, .inl (X.1.2.1, n, .inl (mR n N gv))), (aC, .inl (X.1.2.1, n, .inl (mC n N gv))), (aX, .inl (X.1.2.1, n, .inl (mB n N gv))), (aV, .inl (X.1.2.1, N, .inl (eb gv)))]) rfl ?_
          rw [nO_u]
          show RW X 0 0 43 [(0, .ref aW), (1, .ref aV), (2, .int (nI most)), (3, .int (nI k)), (4, .int (nI c))] [] [(aW, .inr (9, [.ref aB, .ref aO, .int (nI lim), .int (nI fd)])), (aO, .inl (X.1.2.1, N, .inl (nO (uO o1 k c)))), (aG, .inr (5, [.int (nI n), .int (nI N), .int (nI (2 ^ n - 1)), .ref gr, .ref gc, .ref gb, .ref gu])), (gr, .inl (X.1.2.1, N, .inl (gR n))), (gc, .inl (X.1.2.1, N, .inl (gC n))), (gb, .inl (X.1.2.1, N, .inl (gB n))), (aB, .inr (2, [.ref aG, .ref aS, .ref aR, .ref aC, .ref aX])), (aS, .inl (X.1.2.1, N, .inl (eb gv))), (aR, .inl (X.1.2.1, n, .inl (mR n N gv))), (aC, .inl (X.1.2.1, n, .inl (mC n N gv))), (aX, .inl (X.1.2.1, n, .inl (mB n N gv))), (aV, .inl (X.1.2.1, N, .inl (eb gv)))]
          refine r_iinc C dX8_count_43 3 rfl (v := nI (k + 1)) (nI_add _ _) (by decide) [1, 2, 3, 0, 4] (lv' := [(0, .ref aW), (1, .ref aV), (2, .int (nI most)), (3, .int (nI (k + 1))), (4, .int (nI c))]) rfl ?_
          refine r_iinc C dX8_count_46 4 rfl (v := nI (c + 1)) (nI_add _ _) (by decide) [1, 2, 3, 4, 0] (lv' := [(0, .ref aW), (1, .ref aV), (2, .int (nI most)), (3, .int (nI (k + 1))), (4, .int (nI (c + 1)))]) rfl ?_
          refine r_goto (tgt := 13) C dX8_count_49 (by decide) ?_
          exact ih13 (k + 1) (c + 1) (uO o1 k c) (by omega) (by omega) (by omega) (enP_add hen (eo_none h32 (hok.1 c) (by omega)))
  exact L13 ((N - 0) + 1) 0 0 o (Nat.lt_succ_self _) (Nat.zero_le _) (Nat.le_refl _) (⟨fun j q => absurd q (Nat.not_lt_zero j), fun c q => absurd q (Nat.not_lt_zero c), fun i j q => absurd q (Nat.not_lt_zero i)⟩)
theorem fX6_moved_7 : Cond.fieldLink RX6 7 (TX6 0).1 (TX6 0).2.1 (TX6 0).2.2.1 ∈ wsX6_moved := List.mem_of_getElem? (i := 1) rfl
theorem iX6_moved_X6 : ∀ w ∈ wsX60, w ∈ wsX6_moved := by decide +kernel
theorem fX6_moved_32 : Cond.fieldLink RX6 32 (TX4 0).1 (TX4 0).2.1 (TX4 0).2.2.1 ∈ wsX6_moved := List.mem_of_getElem? (i := 2) rfl
theorem iX6_moved_X4 : ∀ w ∈ wsX40, w ∈ wsX6_moved := by decide +kernel
theorem fX6_moved_35 : Cond.fieldLink RX6 35 (TX4 4).1 (TX4 4).2.1 (TX4 4).2.2.1 ∈ wsX6_moved := List.mem_of_getElem? (i := 3) rfl
theorem fX6_moved_38 : Cond.fieldLink RX6 38 (TX4 3).1 (TX4 3).2.1 (TX4 3).2.2.1 ∈ wsX6_moved := List.mem_of_getElem? (i := 4) rfl
set_option maxHeartbeats 4000000 in
set_option maxRecDepth 100000 in
theorem c_X6_moved {g : ww_G} {l : Launch} {n : Nat} {N : Nat} {aG : Nat} {gr : Nat} {gc : Nat} {gb : Nat} {gu : Nat} {aE : Nat} {aL : Nat} {lf : Nat → Nat} {c : Nat} {k : Nat} (hn : (n = 4 ∧ N = 16) ∨ (n = 6 ∧ N = 36)) (hc : c < N) (hk : k < 4) : CT g l yX6_moved wsX6_moved (ww_rm 1) [.ref aE, .int (nI c), .int (nI k)] ([(aE, .inr (7, [.ref aG, .ref aL])), (aL, .inl (g.2.1, N, .inl (nO lf))), (aG, .inr (5, [.int (nI n), .int (nI N), .int (nI (2 ^ n - 1)), .ref gr, .ref gc, .ref gb, .ref gu])), (gr, .inl (g.2.1, N, .inl (gR n))), (gc, .inl (g.2.1, N, .inl (gC n))), (gb, .inl (g.2.1, N, .inl (gB n)))]) (S := Unit) (fun v u => v = some (.int (nI (mv n k c)))) (fun u => [(aE, .inr (7, [.ref aG, .ref aL])), (aL, .inl (g.2.1, N, .inl (nO lf))), (aG, .inr (5, [.int (nI n), .int (nI N), .int (nI (2 ^ n - 1)), .ref gr, .ref gc, .ref gb, .ref gu])), (gr, .inl (g.2.1, N, .inl (gR n))), (gc, .inl (g.2.1, N, .inl (gC n))), (gb, .inl (g.2.1, N, .inl (gB n)))]) := by
  refine CT.of cX6_moved 6 (some .int) RX6 (by decide +kernel) rfl rfl (Nat.le_of_ble_eq_true rfl) ?_
  intro X hg hl C hret
  subst hg; subst hl
  show RW X 0 0 0 [(0, .ref aE), (1, .int (nI c)), (2, .int (nI k))] [] [(aE, .inr (7, [.ref aG, .ref aL])), (aL, .inl (X.1.2.1, N, .inl (nO lf))), (aG, .inr (5, [.int (nI n), .int (nI N), .int (nI (2 ^ n - 1)), .ref gr, .ref gc, .ref gb, .ref gu])), (gr, .inl (X.1.2.1, N, .inl (gR n))), (gc, .inl (X.1.2.1, N, .inl (gC n))), (gb, .inl (X.1.2.1, N, .inl (gB n)))]
  have hdv := dv_lt hn hc
  have hmd := md_lt (c := c) hn
  have hb1 : n * (n - 1 - c / n) + (n - 1) < 2147483648 := by rcases hn with ⟨rfl, rfl⟩ | ⟨rfl, rfl⟩ <;> omega
  refine r_aload_n C dX6_moved_0 0 rfl rfl ?_
  refine r_get C dX6_moved_1 iX6_moved_X6 0 fX6_moved_7 0 rfl rfl (by decide) rfl ?_
  refine r_get C dX6_moved_4 iX6_moved_X4 0 fX6_moved_32 2 rfl rfl (by decide) rfl ?_
  refine r_iconst C dX6_moved_7 (v := nI 1) (by decide) ?_
  refine r_isub C dX6_moved_8 (v := nI (n - 1)) (pk_sub (by omega)) ?_
  refine r_istore_n C dX6_moved_9 rfl (by decide) [1, 2, 3, 0] (lv' := [(0, .ref aE), (1, .int (nI c)), (2, .int (nI k)), (3, .int (nI (n - 1)))]) rfl ?_
  refine r_aload_n C dX6_moved_10 0 rfl rfl ?_
  refine r_get C dX6_moved_11 iX6_moved_X6 0 fX6_moved_7 0 rfl rfl (by decide) rfl ?_
  refine r_get C dX6_moved_14 iX6_moved_X4 4 fX6_moved_35 2 rfl rfl (by decide) rfl ?_
  refine r_iload_n C dX6_moved_17 1 rfl rfl ?_
  refine r_iald C dX6_moved_18 4 rfl (by omega) (by omega) ?_
  show RW X 0 0 19 [(0, .ref aE), (1, .int (nI c)), (2, .int (nI k)), (3, .int (nI (n - 1)))] [.int (nI (c % n))] [(aE, .inr (7, [.ref aG, .ref aL])), (aL, .inl (X.1.2.1, N, .inl (nO lf))), (aG, .inr (5, [.int (nI n), .int (nI N), .int (nI (2 ^ n - 1)), .ref gr, .ref gc, .ref gb, .ref gu])), (gr, .inl (X.1.2.1, N, .inl (gR n))), (gc, .inl (X.1.2.1, N, .inl (gC n))), (gb, .inl (X.1.2.1, N, .inl (gB n)))]
  refine r_istore C dX6_moved_19 (by decide) [1, 2, 3, 4, 0] (lv' := [(0, .ref aE), (1, .int (nI c)), (2, .int (nI k)), (3, .int (nI (n - 1))), (4, .int (nI (c % n)))]) rfl ?_
  refine r_aload_n C dX6_moved_21 0 rfl rfl ?_
  refine r_get C dX6_moved_22 iX6_moved_X6 0 fX6_moved_7 0 rfl rfl (by decide) rfl ?_
  refine r_get C dX6_moved_25 iX6_moved_X4 3 fX6_moved_38 2 rfl rfl (by decide) rfl ?_
  refine r_iload_n C dX6_moved_28 1 rfl rfl ?_
  refine r_iald C dX6_moved_29 3 rfl (by omega) (by omega) ?_
  show RW X 0 0 30 [(0, .ref aE), (1, .int (nI c)), (2, .int (nI k)), (3, .int (nI (n - 1))), (4, .int (nI (c % n)))] [.int (nI (c / n))] [(aE, .inr (7, [.ref aG, .ref aL])), (aL, .inl (X.1.2.1, N, .inl (nO lf))), (aG, .inr (5, [.int (nI n), .int (nI N), .int (nI (2 ^ n - 1)), .ref gr, .ref gc, .ref gb, .ref gu])), (gr, .inl (X.1.2.1, N, .inl (gR n))), (gc, .inl (X.1.2.1, N, .inl (gC n))), (gb, .inl (X.1.2.1, N, .inl (gB n)))]
  refine r_istore C dX6_moved_30 (by decide) [1, 2, 3, 4, 5, 0] (lv' := [(0, .ref aE), (1, .int (nI c)), (2, .int (nI k)), (3, .int (nI (n - 1))), (4, .int (nI (c % n))), (5, .int (nI (c / n)))]) rfl ?_
  refine r_iload_n C dX6_moved_32 2 rfl rfl ?_
  rcases (show k = 0 ∨ k = 1 ∨ k = 2 ∨ k = 3 by omega) with rfl | rfl | rfl | rfl
  · refine r_tsOut (tgt := 110) C dX6_moved_33 (by decide) (by decide) ?_
    refine r_iload_n C dX6_moved_110 1 rfl rfl ?_
    refine r_top (y := nI (mv n 0 c)) rfl ?_
    exact hret _ _ _ () rfl (Or.inr ⟨_, rfl, dX6_moved_111, Or.inl rfl⟩)
  · refine r_tsIn (tgt := 60) C dX6_moved_33 (by decide) (by decide) (off := 27) (by decide) (by decide) ?_
    refine r_aload_n C dX6_moved_60 0 rfl rfl ?_
    refine r_get C dX6_moved_61 iX6_moved_X6 0 fX6_moved_7 0 rfl rfl (by decide) rfl ?_
    refine r_get C dX6_moved_64 iX6_moved_X4 0 fX6_moved_32 2 rfl rfl (by decide) rfl ?_
    refine r_iload_n C dX6_moved_67 3 rfl rfl ?_
    refine r_iload C dX6_moved_68 5 rfl ?_
    refine r_isub C dX6_moved_70 (v := nI ((n - 1) - (c / n))) (pk_sub (by omega)) ?_
    refine r_imul C dX6_moved_71 (v := nI (n * ((n - 1) - (c / n)))) (pk_mul _ _) ?_
    refine r_iload_n C dX6_moved_72 3 rfl rfl ?_
    refine r_iadd C dX6_moved_73 (v := nI ((n * ((n - 1) - (c / n))) + (n - 1))) (nI_add _ _) ?_
    refine r_iload C dX6_moved_74 4 rfl ?_
    refine r_isub C dX6_moved_76 (v := nI (((n * ((n - 1) - (c / n))) + (n - 1)) - (c % n))) (pk_sub (by omega)) ?_
    refine r_top (y := nI (mv n 1 c)) rfl ?_
    exact hret _ _ _ () rfl (Or.inr ⟨_, rfl, dX6_moved_77, Or.inl rfl⟩)
  · refine r_tsIn (tgt := 78) C dX6_moved_33 (by decide) (by decide) (off := 45) (by decide) (by decide) ?_
    refine r_aload_n C dX6_moved_78 0 rfl rfl ?_
    refine r_get C dX6_moved_79 iX6_moved_X6 0 fX6_moved_7 0 rfl rfl (by decide) rfl ?_
    refine r_get C dX6_moved_82 iX6_moved_X4 0 fX6_moved_32 2 rfl rfl (by decide) rfl ?_
    refine r_iload C dX6_moved_85 5 rfl ?_
    refine r_imul C dX6_moved_87 (v := nI (n * (c / n))) (pk_mul _ _) ?_
    refine r_iload_n C dX6_moved_88 3 rfl rfl ?_
    refine r_iadd C dX6_moved_89 (v := nI ((n * (c / n)) + (n - 1))) (nI_add _ _) ?_
    refine r_iload C dX6_moved_90 4 rfl ?_
    refine r_isub C dX6_moved_92 (v := nI (((n * (c / n)) + (n - 1)) - (c % n))) (pk_sub (by omega)) ?_
    refine r_top (y := nI (mv n 2 c)) rfl ?_
    exact hret _ _ _ () rfl (Or.inr ⟨_, rfl, dX6_moved_93, Or.inl rfl⟩)
  · refine r_tsIn (tgt := 94) C dX6_moved_33 (by decide) (by decide) (off := 61) (by decide) (by decide) ?_
    refine r_aload_n C dX6_moved_94 0 rfl rfl ?_
    refine r_get C dX6_moved_95 iX6_moved_X6 0 fX6_moved_7 0 rfl rfl (by decide) rfl ?_
    refine r_get C dX6_moved_98 iX6_moved_X4 0 fX6_moved_32 2 rfl rfl (by decide) rfl ?_
    refine r_iload C dX6_moved_101 4 rfl ?_
    refine r_imul C dX6_moved_103 (v := nI (n * (c % n))) (pk_mul _ _) ?_
    refine r_iload_n C dX6_moved_104 3 rfl rfl ?_
    refine r_iadd C dX6_moved_105 (v := nI ((n * (c % n)) + (n - 1))) (nI_add _ _) ?_
    refine r_iload C dX6_moved_106 5 rfl ?_
    refine r_isub C dX6_moved_108 (v := nI (((n * (c % n)) + (n - 1)) - (c / n))) (pk_sub (by omega)) ?_
    refine r_top (y := nI (mv n 3 c)) rfl ?_
    exact hret _ _ _ () rfl (Or.inr ⟨_, rfl, dX6_moved_109, Or.inl rfl⟩)
theorem fX6_joinBy_7 : Cond.fieldLink RX6 7 (TX6 0).1 (TX6 0).2.1 (TX6 0).2.2.1 ∈ wsX6_joinBy := List.mem_of_getElem? (i := 1) rfl
theorem iX6_joinBy_X6 : ∀ w ∈ wsX60, w ∈ wsX6_joinBy := by decide +kernel
theorem fX6_joinBy_13 : Cond.fieldLink RX6 13 (TX4 1).1 (TX4 1).2.1 (TX4 1).2.2.1 ∈ wsX6_joinBy := List.mem_of_getElem? (i := 2) rfl
theorem iX6_joinBy_X4 : ∀ w ∈ wsX40, w ∈ wsX6_joinBy := by decide +kernel
theorem fX6_joinBy_19 : Cond.fieldLink RX6 19 (TX6 1).1 (TX6 1).2.1 (TX6 1).2.2.1 ∈ wsX6_joinBy := List.mem_of_getElem? (i := 7) rfl
theorem mmX6_joinBy : Cond.methodLink RX6 27 Lib.Math.min.name ∈ wsX6_joinBy ∧ Cond.static Lib.Math.min.name ∈ wsX6_joinBy ∧ Cond.initialized "java/lang/Math" ∈ wsX6_joinBy ∧ Cond.code Lib.Math.min.name Lib.Math.min.code 2 (some .int) ∈ wsX6_joinBy := ⟨List.mem_of_getElem? (i := 3) rfl, List.mem_of_getElem? (i := 4) rfl, List.mem_of_getElem? (i := 5) rfl, List.mem_of_getElem? (i := 6) rfl⟩
set_option maxHeartbeats 4000000 in
set_option maxRecDepth 100000 in
theorem c_X6_joinBy {g : ww_G} {l : Launch} {n : Nat} {N : Nat} {aG : Nat} {gr : Nat} {gc : Nat} {gb : Nat} {gu : Nat} {aE : Nat} {aL : Nat} {lf : Nat → Nat} {k : Nat} (hn : (n = 4 ∧ N = 16) ∨ (n = 6 ∧ N = 36)) (hk : k < 4) : CT g l yX6_joinBy wsX6_joinBy (ww_rm 2) [.ref aE, .int (nI k)] ([(aE, .inr (7, [.ref aG, .ref aL])), (aL, .inl (g.2.1, N, .inl (nO lf))), (aG, .inr (5, [.int (nI n), .int (nI N), .int (nI (2 ^ n - 1)), .ref gr, .ref gc, .ref gb, .ref gu])), (gr, .inl (g.2.1, N, .inl (gR n))), (gc, .inl (g.2.1, N, .inl (gC n))), (gb, .inl (g.2.1, N, .inl (gB n)))]) (S := Unit) (fun v u => v = none) (fun u => [(aE, .inr (7, [.ref aG, .ref aL])), (aL, .inl (g.2.1, N, .inl (nO (lfS n k)))), (aG, .inr (5, [.int (nI n), .int (nI N), .int (nI (2 ^ n - 1)), .ref gr, .ref gc, .ref gb, .ref gu])), (gr, .inl (g.2.1, N, .inl (gR n))), (gc, .inl (g.2.1, N, .inl (gC n))), (gb, .inl (g.2.1, N, .inl (gB n)))]) := by
  refine CT.of cX6_joinBy 6 none RX6 (by decide +kernel) rfl rfl (Nat.le_of_ble_eq_true rfl) ?_
  intro X hg hl C hret
  subst hg; subst hl
  show RW X 0 0 0 [(0, .ref aE), (1, .int (nI k))] [] [(aE, .inr (7, [.ref aG, .ref aL])), (aL, .inl (X.1.2.1, N, .inl (nO lf))), (aG, .inr (5, [.int (nI n), .int (nI N), .int (nI (2 ^ n - 1)), .ref gr, .ref gc, .ref gb, .ref gu])), (gr, .inl (X.1.2.1, N, .inl (gR n))), (gc, .inl (X.1.2.1, N, .inl (gC n))), (gb, .inl (X.1.2.1, N, .inl (gB n)))]
  refine r_iconst C dX6_joinBy_0 (v := nI 0) (by decide) ?_
  refine r_istore_n C dX6_joinBy_1 rfl (by decide) [1, 2, 0] (lv' := [(0, .ref aE), (1, .int (nI k)), (2, .int (nI 0))]) rfl ?_
  have L2 : ∀ (d2 : Nat) (i : Nat) (l1 : Nat → Nat), (N - i) < d2 → (i ≤ N) → (∀ c, c < i → l1 c = lfS n k c) → RW X 0 0 2 [(0, .ref aE), (1, .int (nI k)), (2, .int (nI i))] [] [(aE, .inr (7, [.ref aG, .ref aL])), (aL, .inl (X.1.2.1, N, .inl (nO l1))), (aG, .inr (5, [.int (nI n), .int (nI N), .int (nI (2 ^ n - 1)), .ref gr, .ref gc, .ref gb, .ref gu])), (gr, .inl (X.1.2.1, N, .inl (gR n))), (gc, .inl (X.1.2.1, N, .inl (gC n))), (gb, .inl (X.1.2.1, N, .inl (gB n)))] := by
    intro d2
    induction d2 with
    | zero => intro i l1 hd2; exact absurd hd2 (Nat.not_lt_zero _)
    | succ d2 ih2 =>
      intro i l1 hd2 hi hl1
      refine r_iload_n C dX6_joinBy_2 2 rfl rfl ?_
      refine r_aload_n C dX6_joinBy_3 0 rfl rfl ?_
      refine r_get C dX6_joinBy_4 iX6_joinBy_X6 0 fX6_joinBy_7 0 rfl rfl (by decide) rfl ?_
      refine r_get C dX6_joinBy_7 iX6_joinBy_X4 1 fX6_joinBy_13 2 rfl rfl (by decide) rfl ?_
      refine r_icmp_ge (tgt := 62) C dX6_joinBy_10 (by decide) (fun h10 => ?_) (fun h10 => ?_)
      · have h10 : N ≤ i := (nI_leI (by omega) (by omega)).mp h10
        refine r_arrI 1 rfl (fun j q => congrArg nI (hl1 j (by omega))) (ws' := [(aE, .inr (7, [.ref aG, .ref aL])), (aL, .inl (X.1.2.1, N, .inl (nO (lfS n k)))), (aG, .inr (5, [.int (nI n), .int (nI N), .int (nI (2 ^ n - 1)), .ref gr, .ref gc, .ref gb, .ref gu])), (gr, .inl (X.1.2.1, N, .inl (gR n))), (gc, .inl (X.1.2.1, N, .inl (gC n))), (gb, .inl (X.1.2.1, N, .inl (gB n)))]) rfl ?_
        exact hret _ _ _ () rfl (Or.inl ⟨rfl, rfl, dX6_joinBy_62⟩)
      · have h10 : ¬ (N ≤ i) := fun e9 => h10 ((nI_leI (by omega) (by omega)).mpr e9)
        refine r_iload_n C dX6_joinBy_13 2 rfl rfl ?_
        refine r_istore_n C dX6_joinBy_14 rfl (by decide) [1, 2, 3, 0] (lv' := [(0, .ref aE), (1, .int (nI k)), (2, .int (nI i)), (3, .int (nI i))]) rfl ?_
        refine r_iload_n C dX6_joinBy_15 2 rfl rfl ?_
        refine r_istore C dX6_joinBy_16 (by decide) [1, 2, 3, 4, 0] (lv' := [(0, .ref aE), (1, .int (nI k)), (2, .int (nI i)), (3, .int (nI i)), (4, .int (nI i))]) rfl ?_
        refine r_iconst C dX6_joinBy_18 (v := nI 0) (by decide) ?_
        refine r_istore C dX6_joinBy_19 (by decide) [1, 2, 3, 4, 5, 0] (lv' := [(0, .ref aE), (1, .int (nI k)), (2, .int (nI i)), (3, .int (nI i)), (4, .int (nI i)), (5, .int (nI 0))]) rfl ?_
        have L21 : ∀ (d21 : Nat) (t : Nat), (4 - t) < d21 → (t ≤ 4) → RW X 0 0 21 [(0, .ref aE), (1, .int (nI k)), (2, .int (nI i)), (3, .int (nI ((orb n k i t).2))), (4, .int (nI ((orb n k i t).1))), (5, .int (nI t))] [] [(aE, .inr (7, [.ref aG, .ref aL])), (aL, .inl (X.1.2.1, N, .inl (nO l1))), (aG, .inr (5, [.int (nI n), .int (nI N), .int (nI (2 ^ n - 1)), .ref gr, .ref gc, .ref gb, .ref gu])), (gr, .inl (X.1.2.1, N, .inl (gR n))), (gc, .inl (X.1.2.1, N, .inl (gC n))), (gb, .inl (X.1.2.1, N, .inl (gB n)))] := by
          intro d21
          induction d21 with
          | zero => intro t hd21; exact absurd hd21 (Nat.not_lt_zero _)
          | succ d21 ih21 =>
            intro t hd21 ht
            refine r_iload C dX6_joinBy_21 5 rfl ?_
            refine r_iconst C dX6_joinBy_23 (v := nI 4) (by decide) ?_
            refine r_icmp_ge (tgt := 49) C dX6_joinBy_24 (by decide) (fun h24 => ?_) (fun h24 => ?_)
            · have h24 : 4 ≤ t := (nI_leI (by omega) (by omega)).mp h24
              refine r_aload_n C dX6_joinBy_49 0 rfl rfl ?_
              refine r_get C dX6_joinBy_50 iX6_joinBy_X6 1 fX6_joinBy_19 0 rfl rfl (by decide) rfl ?_
              refine r_iload_n C dX6_joinBy_53 2 rfl rfl ?_
              refine r_iload_n C dX6_joinBy_54 3 rfl rfl ?_
              refine r_iast C dX6_joinBy_55 1 rfl (by omega) (by omega) (ws' := [(aE, .inr (7, [.ref aG, .ref aL])), (aL, .inl (X.1.2.1, N, .inl (upd (nO l1) i (nI ((orb n k i t).2))))), (aG, .inr (5, [.int (nI n), .int (nI N), .int (nI (2 ^ n - 1)), .ref gr, .ref gc, .ref gb, .ref gu])), (gr, .inl (X.1.2.1, N, .inl (gR n))), (gc, .inl (X.1.2.1, N, .inl (gC n))), (gb, .inl (X.1.2.1, N, .inl (gB n)))]) rfl ?_
              rw [nO_u]
              show RW X 0 0 56 [(0, .ref aE), (1, .int (nI k)), (2, .int (nI i)), (3, .int (nI ((orb n k i t).2))), (4, .int (nI ((orb n k i t).1))), (5, .int (nI t))] [] [(aE, .inr (7, [.ref aG, .ref aL])), (aL, .inl (X.1.2.1, N, .inl (nO (uO l1 i (orb n k i t).2)))), (aG, .inr (5, [.int (nI n), .int (nI N), .int (nI (2 ^ n - 1)), .ref gr, .ref gc, .ref gb, .ref gu])), (gr, .inl (X.1.2.1, N, .inl (gR n))), (gc, .inl (X.1.2.1, N, .inl (gC n))), (gb, .inl (X.1.2.1, N, .inl (gB n)))]
              refine r_iinc C dX6_joinBy_56 2 rfl (v := nI (i + 1)) (nI_add _ _) (by decide) [1, 2, 0, 3, 4, 5] (lv' := [(0, .ref aE), (1, .int (nI k)), (2, .int (nI (i + 1))), (3, .int (nI ((orb n k i t).2))), (4, .int (nI ((orb n k i t).1))), (5, .int (nI t))]) rfl ?_
              refine r_goto (tgt := 2) C dX6_joinBy_59 (by decide) ?_
              refine r_lv [0, 1, 2] (lv' := [(0, .ref aE), (1, .int (nI k)), (2, .int (nI (i + 1)))]) rfl ?_
              exact ih2 (i + 1) (uO l1 i (orb n k i t).2) (by omega) (by omega) (uO_S hl1 (by rw [show t = 4 by omega]; rfl))
            · have h24 : ¬ (4 ≤ t) := fun e9 => h24 ((nI_leI (by omega) (by omega)).mpr e9)
              refine r_aload_n C dX6_joinBy_27 0 rfl rfl ?_
              refine r_iload C dX6_joinBy_28 4 rfl ?_
              refine r_iload_n C dX6_joinBy_30 1 rfl rfl ?_
              refine r_callV0 (n := 2) (ws' := fun u => [(aE, .inr (7, [.ref aG, .ref aL])), (aL, .inl (X.1.2.1, N, .inl (nO l1))), (aG, .inr (5, [.int (nI n), .int (nI N), .int (nI (2 ^ n - 1)), .ref gr, .ref gc, .ref gb, .ref gu])), (gr, .inl (X.1.2.1, N, .inl (gR n))), (gc, .inl (X.1.2.1, N, .inl (gC n))), (gb, .inl (X.1.2.1, N, .inl (gB n)))]) C dX6_joinBy_31 (c_X6_moved (g := X.1) (l := X.2.2.1) (n := n) (N := N) (aG := aG) (gr := gr) (gc := gc) (gb := gb) (gu := gu) (aE := aE) (aL := aL) (lf := l1) (c := (orb n k i t).1) (k := k) (hn := (by first | assumption | omega)) (hc := ((orb_lt hn (by omega) t).1)) (hk := (by first | assumption | omega))) gX6_joinBy_X6_moved rfl (by decide +kernel) rfl ⟨Nat.le_of_ble_eq_true rfl, Nat.le_of_ble_eq_true rfl⟩ ⟨rfl, rfl⟩ ⟨Nat.zero_le _, Nat.zero_le _⟩ (rest := []) rfl (by decide) 0 rfl rfl [0, 1, 2, 3, 4, 5] (by decide) rfl (fun u => rfl) (fun u => rfl) (fun v u hp => ?_)
              obtain rfl := hp
              show RW X 0 0 34 [(0, .ref aE), (1, .int (nI k)), (2, .int (nI i)), (3, .int (nI ((orb n k i t).2))), (4, .int (nI ((orb n k i t).1))), (5, .int (nI t))] [.int (nI (mv n k ((orb n k i t).1)))] [(aE, .inr (7, [.ref aG, .ref aL])), (aL, .inl (X.1.2.1, N, .inl (nO l1))), (aG, .inr (5, [.int (nI n), .int (nI N), .int (nI (2 ^ n - 1)), .ref gr, .ref gc, .ref gb, .ref gu])), (gr, .inl (X.1.2.1, N, .inl (gR n))), (gc, .inl (X.1.2.1, N, .inl (gC n))), (gb, .inl (X.1.2.1, N, .inl (gB n)))]
              refine r_istore C dX6_joinBy_34 (by decide) [1, 2, 3, 4, 0, 5] (lv' := [(0, .ref aE), (1, .int (nI k)), (2, .int (nI i)), (3, .int (nI ((orb n k i t).2))), (4, .int (nI (mv n k ((orb n k i t).1)))), (5, .int (nI t))]) rfl ?_
              refine r_iload_n C dX6_joinBy_36 3 rfl rfl ?_
              refine r_iload C dX6_joinBy_37 4 rfl ?_
              have hq1 := (orb_lt (k := k) hn (show i < N by omega) t).2
              have hq2 := mv_lt (k := k) hn (orb_lt (k := k) hn (show i < N by omega) t).1
              refine r_mmin C dX6_joinBy_39 mmX6_joinBy (by decide) (by decide) (by decide) (by decide) (by omega) (by omega) ?_
              refine r_istore_n C dX6_joinBy_42 rfl (by decide) [1, 2, 3, 0, 4, 5] (lv' := [(0, .ref aE), (1, .int (nI k)), (2, .int (nI i)), (3, .int (nI (min ((orb n k i t).2) (mv n k ((orb n k i t).1))))), (4, .int (nI (mv n k ((orb n k i t).1)))), (5, .int (nI t))]) rfl ?_
              refine r_iinc C dX6_joinBy_43 5 rfl (v := nI (t + 1)) (nI_add _ _) (by decide) [1, 2, 3, 4, 5, 0] (lv' := [(0, .ref aE), (1, .int (nI k)), (2, .int (nI i)), (3, .int (nI (min ((orb n k i t).2) (mv n k ((orb n k i t).1))))), (4, .int (nI (mv n k ((orb n k i t).1)))), (5, .int (nI (t + 1)))]) rfl ?_
              refine r_goto (tgt := 21) C dX6_joinBy_46 (by decide) ?_
              exact ih21 (t + 1) (by omega) (by omega)
        exact L21 ((4 - 0) + 1) 0 (Nat.lt_succ_self _) (by omega)
  exact L2 ((N - 0) + 1) 0 lf (Nat.lt_succ_self _) (Nat.zero_le _) (fun c q => absurd q (Nat.not_lt_zero c))
theorem fX4_has_13 : Cond.fieldLink RX4 13 (TX4 1).1 (TX4 1).2.1 (TX4 1).2.2.1 ∈ wsX4_has := List.mem_of_getElem? (i := 1) rfl
theorem iX4_has_X4 : ∀ w ∈ wsX40, w ∈ wsX4_has := by decide +kernel
set_option maxHeartbeats 4000000 in
set_option maxRecDepth 100000 in
theorem c_X4_has {g : ww_G} {l : Launch} {n : Nat} {N : Nat} {aG : Nat} {gr : Nat} {gc : Nat} {gb : Nat} {gu : Nat} {c : Int32} (hn : (n = 4 ∧ N = 16) ∨ (n = 6 ∧ N = 36)) : CT g l yX4_has wsX4_has (ww_rm 1) [.ref aG, .int c] ([(aG, .inr (5, [.int (nI n), .int (nI N), .int (nI (2 ^ n - 1)), .ref gr, .ref gc, .ref gb, .ref gu]))]) (S := Unit) (fun v u => v = some (.int (bz (∃ j, j < N ∧ c = nI j)))) (fun u => [(aG, .inr (5, [.int (nI n), .int (nI N), .int (nI (2 ^ n - 1)), .ref gr, .ref gc, .ref gb, .ref gu]))]) := by
  refine CT.of cX4_has 2 (some .boolean) RX4 (by decide +kernel) rfl rfl (Nat.le_of_ble_eq_true rfl) ?_
  intro X hg hl C hret
  subst hg; subst hl
  show RW X 0 0 0 [(0, .ref aG), (1, .int c)] [] [(aG, .inr (5, [.int (nI n), .int (nI N), .int (nI (2 ^ n - 1)), .ref gr, .ref gc, .ref gb, .ref gu]))]
  refine r_iload_n C dX4_has_0 1 rfl rfl ?_
  refine r_if_lt (tgt := 16) C dX4_has_1 (by decide) (fun h1 => ?_) (fun h1 => ?_)
  · refine r_iconst C dX4_has_16 (v := nI 0) (by decide) ?_
    refine r_top (y := bz (∃ j, j < N ∧ c = nI j)) ((bz_f (fun ⟨j, q1, q2⟩ => absurd h1 (by rw [q2]; exact nI_pos (by omega)))).symm) ?_
    exact hret _ _ _ () rfl (Or.inr ⟨_, rfl, dX4_has_17, Or.inr ⟨rfl, bz_01 _⟩⟩)
  · refine r_iload_n C dX4_has_4 1 rfl rfl ?_
    refine r_aload_n C dX4_has_5 0 rfl rfl ?_
    refine r_get C dX4_has_6 iX4_has_X4 1 fX4_has_13 0 rfl rfl (by decide) rfl ?_
    refine r_icmp_ge (tgt := 16) C dX4_has_9 (by decide) (fun h9 => ?_) (fun h9 => ?_)
    · refine r_iconst C dX4_has_16 (v := nI 0) (by decide) ?_
      refine r_top (y := bz (∃ j, j < N ∧ c = nI j)) ((bz_f (fun ⟨j, q1, q2⟩ => absurd h9 (by rw [q2]; exact nI_ge q1 (by omega)))).symm) ?_
      exact hret _ _ _ () rfl (Or.inr ⟨_, rfl, dX4_has_17, Or.inr ⟨rfl, bz_01 _⟩⟩)
    · refine r_iconst C dX4_has_12 (v := nI 1) (by decide) ?_
      refine r_goto (tgt := 17) C dX4_has_13 (by decide) ?_
      refine r_top (y := bz (∃ j, j < N ∧ c = nI j)) ((bz_t (hasT h1 h9 (by omega))).symm) ?_
      exact hret _ _ _ () rfl (Or.inr ⟨_, rfl, dX4_has_17, Or.inr ⟨rfl, bz_01 _⟩⟩)
theorem fX0_set_7 : Cond.fieldLink RX0 7 (TX0 0).1 (TX0 0).2.1 (TX0 0).2.2.1 ∈ wsX0_set := List.mem_of_getElem? (i := 1) rfl
theorem iX0_set_X0 : ∀ w ∈ wsX00, w ∈ wsX0_set := by decide +kernel
theorem fX0_set_13 : Cond.fieldLink RX0 13 (TX0 1).1 (TX0 1).2.1 (TX0 1).2.2.1 ∈ wsX0_set := List.mem_of_getElem? (i := 2) rfl
theorem fX0_set_19 : Cond.fieldLink RX0 19 (TX0 2).1 (TX0 2).2.1 (TX0 2).2.2.1 ∈ wsX0_set := List.mem_of_getElem? (i := 3) rfl
set_option maxHeartbeats 4000000 in
set_option maxRecDepth 100000 in
theorem c_X0_set {g : ww_G} {l : Launch} {aA : Nat} {ez : Nat} {la : Int32} {ma : Int32} {e2 : Nat} {l2 : Int32} {m2 : Int32}  : CT g l yX0_set wsX0_set (ww_rm 1) [.ref aA, .int (nI e2), .int l2, .int m2] ([(aA, .inr (1, [.int (nI ez), .int la, .int ma]))]) (S := Unit) (fun v u => v = none) (fun u => [(aA, .inr (1, [.int (nI e2), .int l2, .int m2]))]) := by
  refine CT.of cX0_set 4 none RX0 (by decide +kernel) rfl rfl (Nat.le_of_ble_eq_true rfl) ?_
  intro X hg hl C hret
  subst hg; subst hl
  show RW X 0 0 0 [(0, .ref aA), (1, .int (nI e2)), (2, .int l2), (3, .int m2)] [] [(aA, .inr (1, [.int (nI ez), .int la, .int ma]))]
  refine r_aload_n C dX0_set_0 0 rfl rfl ?_
  refine r_iload_n C dX0_set_1 1 rfl rfl ?_
  refine r_put C dX0_set_2 iX0_set_X0 tyX0 tyX0_ok nmX0 0 fX0_set_7 0 rfl rfl (by decide) rfl rfl rfl rfl (Nat.le_of_ble_eq_true rfl) (ws' := [(aA, .inr (1, [.int (nI e2), .int la, .int ma]))]) rfl ?_
  refine r_aload_n C dX0_set_5 0 rfl rfl ?_
  refine r_iload_n C dX0_set_6 2 rfl rfl ?_
  refine r_put C dX0_set_7 iX0_set_X0 tyX0 tyX0_ok nmX0 1 fX0_set_13 0 rfl rfl (by decide) rfl rfl rfl rfl (Nat.le_of_ble_eq_true rfl) (ws' := [(aA, .inr (1, [.int (nI e2), .int l2, .int ma]))]) rfl ?_
  refine r_aload_n C dX0_set_10 0 rfl rfl ?_
  refine r_iload_n C dX0_set_11 3 rfl rfl ?_
  refine r_put C dX0_set_12 iX0_set_X0 tyX0 tyX0_ok nmX0 2 fX0_set_19 0 rfl rfl (by decide) rfl rfl rfl rfl (Nat.le_of_ble_eq_true rfl) (ws' := [(aA, .inr (1, [.int (nI e2), .int l2, .int m2]))]) rfl ?_
  exact hret _ _ _ () rfl (Or.inl ⟨rfl, rfl, dX0_set_15⟩)
theorem fX0_isMet_13 : Cond.fieldLink RX0 13 (TX0 1).1 (TX0 1).2.1 (TX0 1).2.2.1 ∈ wsX0_isMet := List.mem_of_getElem? (i := 1) rfl
theorem iX0_isMet_X0 : ∀ w ∈ wsX00, w ∈ wsX0_isMet := by decide +kernel
theorem fX0_isMet_19 : Cond.fieldLink RX0 19 (TX0 2).1 (TX0 2).2.1 (TX0 2).2.2.1 ∈ wsX0_isMet := List.mem_of_getElem? (i := 2) rfl
theorem fX0_isMet_7 : Cond.fieldLink RX0 7 (TX0 0).1 (TX0 0).2.1 (TX0 0).2.2.1 ∈ wsX0_isMet := List.mem_of_getElem? (i := 3) rfl
set_option maxHeartbeats 4000000 in
set_option maxRecDepth 100000 in
theorem c_X0_isMet {g : ww_G} {l : Launch} {aA : Nat} {ez : Nat} {la : Int32} {ma : Int32} {gn : Nat} {E : Prop} (he : ez < 3) : CT g l yX0_isMet wsX0_isMet (ww_rm 1) [.ref aA, .int (nI gn), .int (bz E)] ([(aA, .inr (1, [.int (nI ez), .int la, .int ma]))]) (S := Unit) (fun v u => v = some (.int (bz (metP ez la ma gn E)))) (fun u => [(aA, .inr (1, [.int (nI ez), .int la, .int ma]))]) := by
  refine CT.of cX0_isMet 3 (some .boolean) RX0 (by decide +kernel) rfl rfl (Nat.le_of_ble_eq_true rfl) ?_
  intro X hg hl C hret
  subst hg; subst hl
  show RW X 0 0 0 [(0, .ref aA), (1, .int (nI gn)), (2, .int (bz E))] [] [(aA, .inr (1, [.int (nI ez), .int la, .int ma]))]
  refine r_iload_n C dX0_isMet_0 1 rfl rfl ?_
  refine r_aload_n C dX0_isMet_1 0 rfl rfl ?_
  refine r_get C dX0_isMet_2 iX0_isMet_X0 1 fX0_isMet_13 0 rfl rfl (by decide) rfl ?_
  refine r_icmp_lt (tgt := 16) C dX0_isMet_5 (by decide) (fun h5 => ?_) (fun h5 => ?_)
  · refine r_iconst C dX0_isMet_16 (v := nI 0) (by decide) ?_
    refine r_top (y := bz (metP ez la ma gn E)) ((bz_f (fun h => absurd h5 (Int32.not_lt.mpr h.1))).symm) ?_
    exact hret _ _ _ () rfl (Or.inr ⟨_, rfl, dX0_isMet_17, Or.inr ⟨rfl, bz_01 _⟩⟩)
  · refine r_iload_n C dX0_isMet_8 1 rfl rfl ?_
    refine r_aload_n C dX0_isMet_9 0 rfl rfl ?_
    refine r_get C dX0_isMet_10 iX0_isMet_X0 2 fX0_isMet_19 0 rfl rfl (by decide) rfl ?_
    refine r_icmp_le (tgt := 18) C dX0_isMet_13 (by decide) (fun h13 => ?_) (fun h13 => ?_)
    · refine r_aload_n C dX0_isMet_18 0 rfl rfl ?_
      refine r_get C dX0_isMet_19 iX0_isMet_X0 0 fX0_isMet_7 0 rfl rfl (by decide) rfl ?_
      refine r_iconst C dX0_isMet_22 (v := nI 1) (by decide) ?_
      refine r_icmp_ne (tgt := 30) C dX0_isMet_23 (by decide) (fun h23 => ?_) (fun h23 => ?_)
      · have h23 : ¬ (ez = 1) := fun e9 => h23 ((nI_eq (by omega) (by omega)).mpr e9)
        refine r_aload_n C dX0_isMet_30 0 rfl rfl ?_
        refine r_get C dX0_isMet_31 iX0_isMet_X0 0 fX0_isMet_7 0 rfl rfl (by decide) rfl ?_
        refine r_iconst C dX0_isMet_34 (v := nI 2) (by decide) ?_
        refine r_icmp_ne (tgt := 42) C dX0_isMet_35 (by decide) (fun h35 => ?_) (fun h35 => ?_)
        · have h35 : ¬ (ez = 2) := fun e9 => h35 ((nI_eq (by omega) (by omega)).mpr e9)
          refine r_iconst C dX0_isMet_42 (v := nI 1) (by decide) ?_
          refine r_goto (tgt := 47) C dX0_isMet_43 (by decide) ?_
          refine r_top (y := bz (metP ez la ma gn E)) ((bz_t ⟨Int32.not_lt.mp h5, h13, fun q => absurd q h23, fun q => absurd q h35⟩).symm) ?_
          exact hret _ _ _ () rfl (Or.inr ⟨_, rfl, dX0_isMet_47, Or.inr ⟨rfl, bz_01 _⟩⟩)
        · have h35 : ez = 2 := (nI_eq (by omega) (by omega)).mp h35
          refine r_iload_n C dX0_isMet_38 2 rfl rfl ?_
          refine r_if_ne (tgt := 46) C dX0_isMet_39 (by decide) (fun h39 => ?_) (fun h39 => ?_)
          · have h39 : E := bz_n0.mp h39
            refine r_iconst C dX0_isMet_46 (v := nI 0) (by decide) ?_
            refine r_top (y := bz (metP ez la ma gn E)) ((bz_f (fun h => h.2.2.2 h35 h39)).symm) ?_
            exact hret _ _ _ () rfl (Or.inr ⟨_, rfl, dX0_isMet_47, Or.inr ⟨rfl, bz_01 _⟩⟩)
          · have h39 : ¬ (E) := bz_0.mp h39
            refine r_iconst C dX0_isMet_42 (v := nI 1) (by decide) ?_
            refine r_goto (tgt := 47) C dX0_isMet_43 (by decide) ?_
            refine r_top (y := bz (metP ez la ma gn E)) ((bz_t ⟨Int32.not_lt.mp h5, h13, fun q => absurd q h23, fun _ => h39⟩).symm) ?_
            exact hret _ _ _ () rfl (Or.inr ⟨_, rfl, dX0_isMet_47, Or.inr ⟨rfl, bz_01 _⟩⟩)
      · have h23 : ez = 1 := (nI_eq (by omega) (by omega)).mp h23
        refine r_iload_n C dX0_isMet_26 2 rfl rfl ?_
        refine r_if_eq (tgt := 46) C dX0_isMet_27 (by decide) (fun h27 => ?_) (fun h27 => ?_)
        · have h27 : ¬ (E) := bz_0.mp h27
          refine r_iconst C dX0_isMet_46 (v := nI 0) (by decide) ?_
          refine r_top (y := bz (metP ez la ma gn E)) ((bz_f (fun h => h27 (h.2.2.1 h23))).symm) ?_
          exact hret _ _ _ () rfl (Or.inr ⟨_, rfl, dX0_isMet_47, Or.inr ⟨rfl, bz_01 _⟩⟩)
        · have h27 : E := bz_n0.mp h27
          refine r_aload_n C dX0_isMet_30 0 rfl rfl ?_
          refine r_get C dX0_isMet_31 iX0_isMet_X0 0 fX0_isMet_7 0 rfl rfl (by decide) rfl ?_
          refine r_iconst C dX0_isMet_34 (v := nI 2) (by decide) ?_
          refine r_icmp_ne (tgt := 42) C dX0_isMet_35 (by decide) (fun h35 => ?_) (fun h35 => ?_)
          · have h35 : ¬ (ez = 2) := fun e9 => h35 ((nI_eq (by omega) (by omega)).mpr e9)
            refine r_iconst C dX0_isMet_42 (v := nI 1) (by decide) ?_
            refine r_goto (tgt := 47) C dX0_isMet_43 (by decide) ?_
            refine r_top (y := bz (metP ez la ma gn E)) ((bz_t ⟨Int32.not_lt.mp h5, h13, fun _ => h27, fun q => absurd q h35⟩).symm) ?_
            exact hret _ _ _ () rfl (Or.inr ⟨_, rfl, dX0_isMet_47, Or.inr ⟨rfl, bz_01 _⟩⟩)
          · have h35 : ez = 2 := (nI_eq (by omega) (by omega)).mp h35
            refine r_iload_n C dX0_isMet_38 2 rfl rfl ?_
            refine r_if_ne (tgt := 46) C dX0_isMet_39 (by decide) (fun h39 => ?_) (fun h39 => ?_)
            · have h39 : E := bz_n0.mp h39
              refine r_iconst C dX0_isMet_46 (v := nI 0) (by decide) ?_
              refine r_top (y := bz (metP ez la ma gn E)) ((bz_f (fun h => h.2.2.2 h35 h39)).symm) ?_
              exact hret _ _ _ () rfl (Or.inr ⟨_, rfl, dX0_isMet_47, Or.inr ⟨rfl, bz_01 _⟩⟩)
            · have h39 : ¬ (E) := bz_0.mp h39
              refine r_iconst C dX0_isMet_42 (v := nI 1) (by decide) ?_
              refine r_goto (tgt := 47) C dX0_isMet_43 (by decide) ?_
              refine r_top (y := bz (metP ez la ma gn E)) ((bz_t ⟨Int32.not_lt.mp h5, h13, fun _ => h27, fun _ => h39⟩).symm) ?_
              exact hret _ _ _ () rfl (Or.inr ⟨_, rfl, dX0_isMet_47, Or.inr ⟨rfl, bz_01 _⟩⟩)
    · refine r_iconst C dX0_isMet_16 (v := nI 0) (by decide) ?_
      refine r_top (y := bz (metP ez la ma gn E)) ((bz_f (fun h => h13 h.2.1)).symm) ?_
      exact hret _ _ _ () rfl (Or.inr ⟨_, rfl, dX0_isMet_17, Or.inr ⟨rfl, bz_01 _⟩⟩)

set_option maxHeartbeats 4000000 in
set_option maxRecDepth 100000 in
theorem c_X9_byteOf {g : ww_G} {l : Launch} {o : Option Nat} (ho : ∀ v, o = some v → v < 2147483648) : CT g l yX9_byteOf wsX9_byteOf (ww_rm 1) [.int (eo o)] ([]) (S := Unit) (fun v u => v = some (.int (nI (bto o)))) (fun u => []) := by
  refine CT.of cX9_byteOf 1 (some .int) RX9 (by decide +kernel) rfl rfl (Nat.le_of_ble_eq_true rfl) ?_
  intro X hg hl C hret
  subst hg; subst hl
  show RW X 0 0 0 [(0, .int (eo o))] [] []
  refine r_iload_n C dX9_byteOf_0 0 rfl rfl ?_
  refine r_if_ge (tgt := 9) C dX9_byteOf_1 (by decide) (fun h1 => ?_) (fun h1 => ?_)
  · obtain ⟨v, rfl⟩ := eo_some (Int32.not_lt.mpr h1)
    show RW X 0 0 9 [(0, .int (nI v))] [] []
    refine r_bipush C dX9_byteOf_9 (v := nI 49) (by decide) ?_
    refine r_iload_n C dX9_byteOf_11 0 rfl rfl ?_
    refine r_iadd C dX9_byteOf_12 (v := nI (49 + v)) (nI_add 49 v) ?_
    refine r_top (y := nI (bto (some v))) rfl ?_
    exact hret _ _ _ () rfl (Or.inr ⟨_, rfl, dX9_byteOf_13, Or.inl rfl⟩)
  · have hz : o = none := (eo_neg ho).mp (Int32.not_le.mp h1)
    subst hz
    refine r_bipush C dX9_byteOf_4 (v := nI 46) (by decide) ?_
    refine r_goto (tgt := 13) C dX9_byteOf_6 (by decide) ?_
    refine r_top (y := nI (bto none)) rfl ?_
    exact hret _ _ _ () rfl (Or.inr ⟨_, rfl, dX9_byteOf_13, Or.inl rfl⟩)
theorem fX9_add_7 : Cond.fieldLink RX9 7 (TX9 3).1 (TX9 3).2.1 (TX9 3).2.2.1 ∈ wsX9_add := List.mem_of_getElem? (i := 1) rfl
theorem iX9_add_X9 : ∀ w ∈ wsX90, w ∈ wsX9_add := by decide +kernel
theorem fX9_add_26 : Cond.fieldLink RX9 26 (TX9 2).1 (TX9 2).2.1 (TX9 2).2.2.1 ∈ wsX9_add := List.mem_of_getElem? (i := 2) rfl
set_option maxHeartbeats 4000000 in
set_option maxRecDepth 100000 in
theorem c_X9_add {g : ww_G} {l : Launch} {aT : Nat} {aY : Nat} {len : Nat} {ty : Nat → Nat} {aB : Nat} {aS : Nat} {aG : Nat} {uu : Int32} (hlen : len ≤ 60) : CT g l yX9_add wsX9_add (ww_rm 1) [.ref aT, .int uu] ([(aT, .inr (10, [.ref aG, .ref aB, .ref aY, .int (nI len), .ref aS])), (aY, .inl (g.2.1, 60, .inl (nO ty)))]) (S := Nat × (Nat → Nat)) (fun v u => v = some (.int (bz (¬ uu < 0 ∧ uu ≤ nI 255 ∧ len < 60))) ∧ ((¬ uu < 0 ∧ uu ≤ nI 255 ∧ len < 60) → ∃ w, uu = nI w ∧ u.1 = len + 1 ∧ u.2 = uO ty len w) ∧ (¬ (¬ uu < 0 ∧ uu ≤ nI 255 ∧ len < 60) → u.1 = len ∧ u.2 = ty)) (fun u => [(aT, .inr (10, [.ref aG, .ref aB, .ref aY, .int (nI u.1), .ref aS])), (aY, .inl (g.2.1, 60, .inl (nO u.2)))]) := by
  refine CT.of cX9_add 2 (some .boolean) RX9 (by decide +kernel) rfl rfl (Nat.le_of_ble_eq_true rfl) ?_
  intro X hg hl C hret
  subst hg; subst hl
  show RW X 0 0 0 [(0, .ref aT), (1, .int uu)] [] [(aT, .inr (10, [.ref aG, .ref aB, .ref aY, .int (nI len), .ref aS])), (aY, .inl (X.1.2.1, 60, .inl (nO ty)))]
  refine r_iload_n C dX9_add_0 1 rfl rfl ?_
  refine r_if_lt (tgt := 20) C dX9_add_1 (by decide) (fun h1 => ?_) (fun h1 => ?_)
  · refine r_iconst C dX9_add_20 (v := nI 0) (by decide) ?_
    refine r_top (y := bz (¬ uu < 0 ∧ uu ≤ nI 255 ∧ len < 60)) ((bz_f (fun q => q.1 h1)).symm) ?_
    exact hret _ _ _ (len, ty) ⟨rfl, fun q => absurd q (fun q => q.1 h1), fun _ => ⟨rfl, rfl⟩⟩ (Or.inr ⟨_, rfl, dX9_add_21, Or.inr ⟨rfl, bz_01 _⟩⟩)
  · refine r_iload_n C dX9_add_4 1 rfl rfl ?_
    refine r_sipush C dX9_add_5 (v := nI 255) (by decide) ?_
    refine r_icmp_gt (tgt := 20) C dX9_add_8 (by decide) (fun h8 => ?_) (fun h8 => ?_)
    · refine r_iconst C dX9_add_20 (v := nI 0) (by decide) ?_
      refine r_top (y := bz (¬ uu < 0 ∧ uu ≤ nI 255 ∧ len < 60)) ((bz_f (fun q => absurd h8 (Int32.not_lt.mpr q.2.1))).symm) ?_
      exact hret _ _ _ (len, ty) ⟨rfl, fun q => absurd q (fun q => absurd h8 (Int32.not_lt.mpr q.2.1)), fun _ => ⟨rfl, rfl⟩⟩ (Or.inr ⟨_, rfl, dX9_add_21, Or.inr ⟨rfl, bz_01 _⟩⟩)
    · obtain ⟨w, hw, rfl⟩ := nI_of2 (M := nI 255) (n := 255) (by decide) h1 (Int32.not_lt.mp h8)
      refine r_aload_n C dX9_add_11 0 rfl rfl ?_
      refine r_get C dX9_add_12 iX9_add_X9 3 fX9_add_7 0 rfl rfl (by decide) rfl ?_
      refine r_bipush C dX9_add_15 (v := nI 60) (by decide) ?_
      refine r_icmp_lt (tgt := 22) C dX9_add_17 (by decide) (fun h17 => ?_) (fun h17 => ?_)
      · have h17 : len < 60 := (nI_ltI (by omega) (by omega)).mp h17
        refine r_aload_n C dX9_add_22 0 rfl rfl ?_
        refine r_get C dX9_add_23 iX9_add_X9 2 fX9_add_26 0 rfl rfl (by decide) rfl ?_
        refine r_aload_n C dX9_add_26 0 rfl rfl ?_
        refine r_get C dX9_add_27 iX9_add_X9 3 fX9_add_7 0 rfl rfl (by decide) rfl ?_
        refine r_iload_n C dX9_add_30 1 rfl rfl ?_
        refine r_iast C dX9_add_31 1 rfl (by omega) (by omega) (ws' := [(aT, .inr (10, [.ref aG, .ref aB, .ref aY, .int (nI len), .ref aS])), (aY, .inl (X.1.2.1, 60, .inl (upd (nO ty) len (nI w))))]) rfl ?_
        rw [nO_u]
        show RW X 0 0 32 [(0, .ref aT), (1, .int (nI w))] [] [(aT, .inr (10, [.ref aG, .ref aB, .ref aY, .int (nI len), .ref aS])), (aY, .inl (X.1.2.1, 60, .inl (nO (uO ty len w))))]
        refine r_aload_n C dX9_add_32 0 rfl rfl ?_
        refine r_dup C dX9_add_33 rfl ?_
        refine r_get C dX9_add_34 iX9_add_X9 3 fX9_add_7 0 rfl rfl (by decide) rfl ?_
        refine r_iconst C dX9_add_37 (v := nI 1) (by decide) ?_
        refine r_iadd C dX9_add_38 (v := nI (len + 1)) (nI_add _ _) ?_
        refine r_put C dX9_add_39 iX9_add_X9 tyX9 tyX9_ok nmX9 3 fX9_add_7 0 rfl rfl (by decide) rfl rfl rfl rfl (Nat.le_of_ble_eq_true rfl) (ws' := [(aT, .inr (10, [.ref aG, .ref aB, .ref aY, .int (nI (len + 1)), .ref aS])), (aY, .inl (X.1.2.1, 60, .inl (nO (uO ty len w))))]) rfl ?_
        refine r_iconst C dX9_add_42 (v := nI 1) (by decide) ?_
        refine r_top (y := bz (¬ (nI w) < 0 ∧ (nI w) ≤ nI 255 ∧ len < 60)) ((bz_t ⟨h1, Int32.not_lt.mp h8, h17⟩).symm) ?_
        exact hret _ _ _ (len + 1, uO ty len w) ⟨rfl, fun _ => ⟨w, rfl, rfl, rfl⟩, fun q => absurd ⟨h1, Int32.not_lt.mp h8, h17⟩ q⟩ (Or.inr ⟨_, rfl, dX9_add_43, Or.inr ⟨rfl, bz_01 _⟩⟩)
      · have h17 : ¬ (len < 60) := fun e9 => h17 ((nI_ltI (by omega) (by omega)).mpr e9)
        refine r_iconst C dX9_add_20 (v := nI 0) (by decide) ?_
        refine r_top (y := bz (¬ (nI w) < 0 ∧ (nI w) ≤ nI 255 ∧ len < 60)) ((bz_f (fun q => h17 q.2.2)).symm) ?_
        exact hret _ _ _ (len, ty) ⟨rfl, fun q => absurd q (fun q => h17 q.2.2), fun _ => ⟨rfl, rfl⟩⟩ (Or.inr ⟨_, rfl, dX9_add_21, Or.inr ⟨rfl, bz_01 _⟩⟩)
theorem fX9_readByte_13 : Cond.fieldLink RX9 13 (TX9 0).1 (TX9 0).2.1 (TX9 0).2.2.1 ∈ wsX9_readByte := List.mem_of_getElem? (i := 1) rfl
theorem iX9_readByte_X9 : ∀ w ∈ wsX90, w ∈ wsX9_readByte := by decide +kernel
theorem fX9_readByte_46 : Cond.fieldLink RX9 46 (TX4 0).1 (TX4 0).2.1 (TX4 0).2.2.1 ∈ wsX9_readByte := List.mem_of_getElem? (i := 2) rfl
theorem iX9_readByte_X4 : ∀ w ∈ wsX40, w ∈ wsX9_readByte := by decide +kernel
theorem fX9_readByte_22 : Cond.fieldLink RX9 22 (TX9 1).1 (TX9 1).2.1 (TX9 1).2.2.1 ∈ wsX9_readByte := List.mem_of_getElem? (i := 3) rfl
set_option maxHeartbeats 4000000 in
set_option maxRecDepth 100000 in
theorem c_X9_readByte {g : ww_G} {l : Launch} {n : Nat} {N : Nat} {aG : Nat} {gr : Nat} {gc : Nat} {gb : Nat} {gu : Nat} {aB : Nat} {aS : Nat} {aR : Nat} {aC : Nat} {aX : Nat} {b : Nat → Option Nat} {aT : Nat} {aY : Nat} {len : Nat} {ty : Nat → Nat} {c : Nat} {t : Nat} (hn : (n = 4 ∧ N = 16) ∨ (n = 6 ∧ N = 36)) (hc : c < N) (h0 : b c = none) (ht : t < 1073741824) : CT g l yX9_readByte wsX9_readByte (ww_rm 3) [.ref aT, .int (nI c), .int (nI t)] ([(aT, .inr (10, [.ref aG, .ref aB, .ref aY, .int (nI len), .ref aS])), (aY, .inl (g.2.1, 60, .inl (nO ty))), (aG, .inr (5, [.int (nI n), .int (nI N), .int (nI (2 ^ n - 1)), .ref gr, .ref gc, .ref gb, .ref gu])), (gr, .inl (g.2.1, N, .inl (gR n))), (gc, .inl (g.2.1, N, .inl (gC n))), (gb, .inl (g.2.1, N, .inl (gB n))), (aB, .inr (2, [.ref aG, .ref aS, .ref aR, .ref aC, .ref aX])), (aS, .inl (g.2.1, N, .inl (eb b))), (aR, .inl (g.2.1, n, .inl (mR n N b))), (aC, .inl (g.2.1, n, .inl (mC n N b))), (aX, .inl (g.2.1, n, .inl (mB n N b)))]) (S := (Nat → Option Nat)) (fun v u => v = some (.int (bz (rdB n N b c t ≠ none))) ∧ (u = (rdB n N b c t).getD b)) (fun u => [(aT, .inr (10, [.ref aG, .ref aB, .ref aY, .int (nI len), .ref aS])), (aY, .inl (g.2.1, 60, .inl (nO ty))), (aG, .inr (5, [.int (nI n), .int (nI N), .int (nI (2 ^ n - 1)), .ref gr, .ref gc, .ref gb, .ref gu])), (gr, .inl (g.2.1, N, .inl (gR n))), (gc, .inl (g.2.1, N, .inl (gC n))), (gb, .inl (g.2.1, N, .inl (gB n))), (aB, .inr (2, [.ref aG, .ref aS, .ref aR, .ref aC, .ref aX])), (aS, .inl (g.2.1, N, .inl (eb u))), (aR, .inl (g.2.1, n, .inl (mR n N u))), (aC, .inl (g.2.1, n, .inl (mC n N u))), (aX, .inl (g.2.1, n, .inl (mB n N u)))]) := by
  refine CT.of cX9_readByte 4 (some .boolean) RX9 (by decide +kernel) rfl rfl (Nat.le_of_ble_eq_true rfl) ?_
  intro X hg hl C hret
  subst hg; subst hl
  show RW X 0 0 0 [(0, .ref aT), (1, .int (nI c)), (2, .int (nI t))] [] [(aT, .inr (10, [.ref aG, .ref aB, .ref aY, .int (nI len), .ref aS])), (aY, .inl (X.1.2.1, 60, .inl (nO ty))), (aG, .inr (5, [.int (nI n), .int (nI N), .int (nI (2 ^ n - 1)), .ref gr, .ref gc, .ref gb, .ref gu])), (gr, .inl (X.1.2.1, N, .inl (gR n))), (gc, .inl (X.1.2.1, N, .inl (gC n))), (gb, .inl (X.1.2.1, N, .inl (gB n))), (aB, .inr (2, [.ref aG, .ref aS, .ref aR, .ref aC, .ref aX])), (aS, .inl (X.1.2.1, N, .inl (eb b))), (aR, .inl (X.1.2.1, n, .inl (mR n N b))), (aC, .inl (X.1.2.1, n, .inl (mC n N b))), (aX, .inl (X.1.2.1, n, .inl (mB n N b)))]
  refine r_iload_n C dX9_readByte_0 2 rfl rfl ?_
  refine r_bipush C dX9_readByte_1 (v := nI 46) (by decide) ?_
  refine r_icmp_ne (tgt := 8) C dX9_readByte_3 (by decide) (fun h3 => ?_) (fun h3 => ?_)
  · have h3 : ¬ (t = 46) := fun e9 => h3 ((nI_eq (by omega) (by omega)).mpr e9)
    refine r_iload_n C dX9_readByte_8 2 rfl rfl ?_
    refine r_bipush C dX9_readByte_9 (v := nI 49) (by decide) ?_
    refine r_isub C dX9_readByte_11 (v := nI t - nI 49) rfl ?_
    refine r_istore_n C dX9_readByte_12 rfl (by decide) [1, 2, 3, 0] (lv' := [(0, .ref aT), (1, .int (nI c)), (2, .int (nI t)), (3, .int (nI t - nI 49))]) rfl ?_
    refine r_iload_n C dX9_readByte_13 3 rfl rfl ?_
    refine r_if_lt (tgt := 43) C dX9_readByte_14 (by decide) (fun h14 => ?_) (fun h14 => ?_)
    · refine r_iconst C dX9_readByte_43 (v := nI 0) (by decide) ?_
      have hr9 := rdB_no (n := n) (N := N) (b := b) (c := c) (t := t) h3 (fun q => absurd ((sub49 (by omega)).mp h14) (by omega))
      refine r_top (y := bz (rdB n N b c t ≠ none)) ((bz_f (by rw [hr9]; simp)).symm) ?_
      exact hret _ _ _ (b) ⟨rfl, by rw [hr9]; rfl⟩ (Or.inr ⟨_, rfl, dX9_readByte_44, Or.inr ⟨rfl, bz_01 _⟩⟩)
    · have h49 : ¬ t < 49 := fun q => h14 ((sub49 (by omega)).mpr q)
      rw [pk_sub (show 49 ≤ t by omega)]
      show RW X 0 0 17 [(0, .ref aT), (1, .int (nI c)), (2, .int (nI t)), (3, .int (nI (t - 49)))] [] [(aT, .inr (10, [.ref aG, .ref aB, .ref aY, .int (nI len), .ref aS])), (aY, .inl (X.1.2.1, 60, .inl (nO ty))), (aG, .inr (5, [.int (nI n), .int (nI N), .int (nI (2 ^ n - 1)), .ref gr, .ref gc, .ref gb, .ref gu])), (gr, .inl (X.1.2.1, N, .inl (gR n))), (gc, .inl (X.1.2.1, N, .inl (gC n))), (gb, .inl (X.1.2.1, N, .inl (gB n))), (aB, .inr (2, [.ref aG, .ref aS, .ref aR, .ref aC, .ref aX])), (aS, .inl (X.1.2.1, N, .inl (eb b))), (aR, .inl (X.1.2.1, n, .inl (mR n N b))), (aC, .inl (X.1.2.1, n, .inl (mC n N b))), (aX, .inl (X.1.2.1, n, .inl (mB n N b)))]
      refine r_iload_n C dX9_readByte_17 3 rfl rfl ?_
      refine r_aload_n C dX9_readByte_18 0 rfl rfl ?_
      refine r_get C dX9_readByte_19 iX9_readByte_X9 0 fX9_readByte_13 0 rfl rfl (by decide) rfl ?_
      refine r_get C dX9_readByte_22 iX9_readByte_X4 0 fX9_readByte_46 2 rfl rfl (by decide) rfl ?_
      refine r_icmp_ge (tgt := 43) C dX9_readByte_25 (by decide) (fun h25 => ?_) (fun h25 => ?_)
      · have h25 : n ≤ (t - 49) := (nI_leI (by omega) (by omega)).mp h25
        refine r_iconst C dX9_readByte_43 (v := nI 0) (by decide) ?_
        have hr9 := rdB_no (n := n) (N := N) (b := b) (c := c) (t := t) h3 (fun q => absurd q.2.1 (by omega))
        refine r_top (y := bz (rdB n N b c t ≠ none)) ((bz_f (by rw [hr9]; simp)).symm) ?_
        exact hret _ _ _ (b) ⟨rfl, by rw [hr9]; rfl⟩ (Or.inr ⟨_, rfl, dX9_readByte_44, Or.inr ⟨rfl, bz_01 _⟩⟩)
      · have h25 : ¬ (n ≤ (t - 49)) := fun e9 => h25 ((nI_leI (by omega) (by omega)).mpr e9)
        refine r_aload_n C dX9_readByte_28 0 rfl rfl ?_
        refine r_get C dX9_readByte_29 iX9_readByte_X9 1 fX9_readByte_22 0 rfl rfl (by decide) rfl ?_
        refine r_iload_n C dX9_readByte_32 1 rfl rfl ?_
        refine r_callV0 (n := 1) (ws' := fun u => [(aT, .inr (10, [.ref aG, .ref aB, .ref aY, .int (nI len), .ref aS])), (aY, .inl (X.1.2.1, 60, .inl (nO ty))), (aG, .inr (5, [.int (nI n), .int (nI N), .int (nI (2 ^ n - 1)), .ref gr, .ref gc, .ref gb, .ref gu])), (gr, .inl (X.1.2.1, N, .inl (gR n))), (gc, .inl (X.1.2.1, N, .inl (gC n))), (gb, .inl (X.1.2.1, N, .inl (gB n))), (aB, .inr (2, [.ref aG, .ref aS, .ref aR, .ref aC, .ref aX])), (aS, .inl (X.1.2.1, N, .inl (eb b))), (aR, .inl (X.1.2.1, n, .inl (mR n N b))), (aC, .inl (X.1.2.1, n, .inl (mC n N b))), (aX, .inl (X.1.2.1, n, .inl (mB n N b)))]) C dX9_readByte_33 (c_X1_may (g := X.1) (l := X.2.2.1) (n := n) (N := N) (aG := aG) (gr := gr) (gc := gc) (gb := gb) (gu := gu) (aB := aB) (aS := aS) (aR := aR) (aC := aC) (aX := aX) (b := b) (c := c) (hn := (by first | assumption | omega)) (hc := (by first | assumption | omega))) gX9_readByte_X1_may rfl (by decide +kernel) rfl ⟨Nat.le_of_ble_eq_true rfl, Nat.le_of_ble_eq_true rfl⟩ ⟨rfl, rfl⟩ ⟨Nat.zero_le _, Nat.zero_le _⟩ (rest := []) rfl (by decide) 4 rfl rfl [2, 3, 4, 5, 6, 7, 8, 9, 10] (by decide) rfl (fun u => rfl) (fun u => rfl) (fun v u hp => ?_)
        obtain rfl := hp
        show RW X 0 0 36 [(0, .ref aT), (1, .int (nI c)), (2, .int (nI t)), (3, .int (nI (t - 49)))] [.int (nI (mkN (mayP n N b c)))] [(aT, .inr (10, [.ref aG, .ref aB, .ref aY, .int (nI len), .ref aS])), (aY, .inl (X.1.2.1, 60, .inl (nO ty))), (aG, .inr (5, [.int (nI n), .int (nI N), .int (nI (2 ^ n - 1)), .ref gr, .ref gc, .ref gb, .ref gu])), (gr, .inl (X.1.2.1, N, .inl (gR n))), (gc, .inl (X.1.2.1, N, .inl (gC n))), (gb, .inl (X.1.2.1, N, .inl (gB n))), (aB, .inr (2, [.ref aG, .ref aS, .ref aR, .ref aC, .ref aX])), (aS, .inl (X.1.2.1, N, .inl (eb b))), (aR, .inl (X.1.2.1, n, .inl (mR n N b))), (aC, .inl (X.1.2.1, n, .inl (mC n N b))), (aX, .inl (X.1.2.1, n, .inl (mB n N b)))]
        refine r_iload_n C dX9_readByte_36 3 rfl rfl ?_
        refine r_ishr C dX9_readByte_37 (v := nI (mkN (mayP n N b c) >>> (t - 49))) (shr_s _ (mkN_lt _) _ (by omega)) ?_
        refine r_iconst C dX9_readByte_38 (v := nI 1) (by decide) ?_
        refine r_iand C dX9_readByte_39 (v := nI (((mkN (mayP n N b c)).testBit (t - 49)).toNat)) (bit_s _ (mkN_lt _) _ (by omega)) ?_
        have hb9 : ((mkN (mayP n N b c)).testBit (t - 49)).toNat ≤ 1 := Bool.toNat_le _
        refine r_if_ne (tgt := 45) C dX9_readByte_40 (by decide) (fun h40 => ?_) (fun h40 => ?_)
        · have h40 : ¬ ((((mkN (mayP n N b c)).testBit (t - 49)).toNat) = 0) := fun e9 => h40 ((nI_eq (b := 0) (by omega) (by omega)).mpr e9)
          have hPs := bit_1 (P := mayP n N b c) (by omega) h40
          refine r_aload_n C dX9_readByte_45 0 rfl rfl ?_
          refine r_get C dX9_readByte_46 iX9_readByte_X9 1 fX9_readByte_22 0 rfl rfl (by decide) rfl ?_
          refine r_iload_n C dX9_readByte_49 1 rfl rfl ?_
          refine r_iload_n C dX9_readByte_50 3 rfl rfl ?_
          refine r_callV0 (n := 2) (ws' := fun u => [(aT, .inr (10, [.ref aG, .ref aB, .ref aY, .int (nI len), .ref aS])), (aY, .inl (X.1.2.1, 60, .inl (nO ty))), (aG, .inr (5, [.int (nI n), .int (nI N), .int (nI (2 ^ n - 1)), .ref gr, .ref gc, .ref gb, .ref gu])), (gr, .inl (X.1.2.1, N, .inl (gR n))), (gc, .inl (X.1.2.1, N, .inl (gC n))), (gb, .inl (X.1.2.1, N, .inl (gB n))), (aB, .inr (2, [.ref aG, .ref aS, .ref aR, .ref aC, .ref aX])), (aS, .inl (X.1.2.1, N, .inl (eb (ub b c (some (t - 49)))))), (aR, .inl (X.1.2.1, n, .inl (mR n N (ub b c (some (t - 49)))))), (aC, .inl (X.1.2.1, n, .inl (mC n N (ub b c (some (t - 49)))))), (aX, .inl (X.1.2.1, n, .inl (mB n N (ub b c (some (t - 49))))))]) C dX9_readByte_51 (c_X1_put (g := X.1) (l := X.2.2.1) (n := n) (N := N) (aG := aG) (gr := gr) (gc := gc) (gb := gb) (gu := gu) (aB := aB) (aS := aS) (aR := aR) (aC := aC) (aX := aX) (b := b) (c := c) (v := t - 49) (hn := (by first | assumption | omega)) (hc := (by first | assumption | omega)) (h0 := (by first | assumption | omega)) (hm := hPs)) gX9_readByte_X1_put rfl (by decide +kernel) rfl ⟨Nat.le_of_ble_eq_true rfl, Nat.le_of_ble_eq_true rfl⟩ ⟨rfl, rfl⟩ ⟨Nat.zero_le _, Nat.zero_le _⟩ (rest := []) rfl (by decide) 4 rfl rfl [2, 3, 4, 5, 6, 7, 8, 9, 10] (by decide) rfl (fun u => rfl) (fun u => rfl) (fun v u hp => ?_)
          obtain rfl := hp
          show RW X 0 0 54 [(0, .ref aT), (1, .int (nI c)), (2, .int (nI t)), (3, .int (nI (t - 49)))] [] [(aT, .inr (10, [.ref aG, .ref aB, .ref aY, .int (nI len), .ref aS])), (aY, .inl (X.1.2.1, 60, .inl (nO ty))), (aG, .inr (5, [.int (nI n), .int (nI N), .int (nI (2 ^ n - 1)), .ref gr, .ref gc, .ref gb, .ref gu])), (gr, .inl (X.1.2.1, N, .inl (gR n))), (gc, .inl (X.1.2.1, N, .inl (gC n))), (gb, .inl (X.1.2.1, N, .inl (gB n))), (aB, .inr (2, [.ref aG, .ref aS, .ref aR, .ref aC, .ref aX])), (aS, .inl (X.1.2.1, N, .inl (eb (ub b c (some (t - 49)))))), (aR, .inl (X.1.2.1, n, .inl (mR n N (ub b c (some (t - 49)))))), (aC, .inl (X.1.2.1, n, .inl (mC n N (ub b c (some (t - 49)))))), (aX, .inl (X.1.2.1, n, .inl (mB n N (ub b c (some (t - 49))))))]
          refine r_iconst C dX9_readByte_54 (v := nI 1) (by decide) ?_
          have hr9 := rdB_dg (n := n) (N := N) (b := b) (c := c) (t := t) (by omega) hPs
          refine r_top (y := bz (rdB n N b c t ≠ none)) ((bz_t (by rw [hr9]; simp)).symm) ?_
          exact hret _ _ _ (ub b c (some (t - 49))) ⟨rfl, by rw [hr9]; rfl⟩ (Or.inr ⟨_, rfl, dX9_readByte_55, Or.inr ⟨rfl, bz_01 _⟩⟩)
        · have h40 : (((mkN (mayP n N b c)).testBit (t - 49)).toNat) = 0 := (nI_eq (b := 0) (by omega) (by omega)).mp h40
          refine r_iconst C dX9_readByte_43 (v := nI 0) (by decide) ?_
          have hr9 := rdB_no (n := n) (N := N) (b := b) (c := c) (t := t) h3 (fun q => bit_0 (P := mayP n N b c) (by omega) h40 q.2)
          refine r_top (y := bz (rdB n N b c t ≠ none)) ((bz_f (by rw [hr9]; simp)).symm) ?_
          exact hret _ _ _ (b) ⟨rfl, by rw [hr9]; rfl⟩ (Or.inr ⟨_, rfl, dX9_readByte_44, Or.inr ⟨rfl, bz_01 _⟩⟩)
  · have h3 : t = 46 := (nI_eq (by omega) (by omega)).mp h3
    refine r_iconst C dX9_readByte_6 (v := nI 1) (by decide) ?_
    have hr9 := rdB_pt (n := n) (N := N) (b := b) (c := c) h3
    refine r_top (y := bz (rdB n N b c t ≠ none)) ((bz_t (by rw [rdB_pt h3]; simp)).symm) ?_
    exact hret _ _ _ (b) ⟨rfl, by rw [hr9]; rfl⟩ (Or.inr ⟨_, rfl, dX9_readByte_7, Or.inr ⟨rfl, bz_01 _⟩⟩)
