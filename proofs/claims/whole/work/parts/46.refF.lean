def te4 (te : Nat → Nat) (a b c : Nat) : Nat → Nat := uO (uO (uO te 1 a) 2 b) 3 c
theorem te4_1 {te : Nat → Nat} {a : Nat} : uO te 1 a = te4 te a (te 2) (te 3) := by
  funext j
  unfold te4 uO
  by_cases e3 : j = 3
  · subst e3; simp
  · by_cases e2 : j = 2
    · subst e2; simp
    · simp [e3, e2]
theorem te4_0 {te : Nat → Nat} {a c : Nat} : te4 te a (te 2) c = te4 te a (te 2 + 0) c := rfl
theorem te4_2 {te : Nat → Nat} {a b c i : Nat} : upd (nO (te4 te a (b + i) c)) 2 (nI (te4 te a (b + i) c 2 + 1)) = nO (te4 te a (b + (i + 1)) c) := by
  rw [nO_u]
  congr 1
  funext j
  unfold te4 uO
  by_cases e3 : j = 3
  · subst e3; simp
  · by_cases e2 : j = 2
    · subst e2; simp; omega
    · simp [e3, e2]
theorem te4_3 {te : Nat → Nat} {a b c : Nat} : upd (nO (te4 te a b c)) 3 (nI (te4 te a b c 3 + 1)) = nO (te4 te a b (c + 1)) := by
  rw [nO_u]
  congr 1
  funext j
  unfold te4 uO
  by_cases e3 : j = 3
  · subst e3; simp
  · simp [e3]
theorem lfS_i4 : ∀ k, k < 4 → ∀ c, c < 16 → lfS 4 k (lfS 4 k c) = lfS 4 k c := by decide +kernel
theorem lfS_i6 : ∀ k, k < 4 → ∀ c, c < 36 → lfS 6 k (lfS 6 k c) = lfS 6 k c := by decide +kernel
theorem lfS_id {n N k c : Nat} (hn : (n = 4 ∧ N = 16) ∨ (n = 6 ∧ N = 36)) (hk : k < 4) (hc : c < N) : lfS n k (lfS n k c) = lfS n k c := by
  rcases hn with ⟨rfl, rfl⟩ | ⟨rfl, rfl⟩
  · exact lfS_i4 k hk c hc
  · exact lfS_i6 k hk c hc
noncomputable def stE (N : Nat) (lf th : Nat → Nat) (c : Nat) (W : Nat → Option Nat) : Nat → Option Nat := fun d => @ite _ (d < N ∧ lf d < c ∧ ∃ e, e < N ∧ th e = 2 ∧ lf e = lf d) (Classical.propDecidable _) none (W d)
theorem stE_t {N c d : Nat} {lf th : Nat → Nat} {W : Nat → Option Nat} (h : d < N ∧ lf d < c ∧ ∃ e, e < N ∧ th e = 2 ∧ lf e = lf d) : stE N lf th c W d = none := by unfold stE; rw [if_pos h]
theorem stE_f {N c d : Nat} {lf th : Nat → Nat} {W : Nat → Option Nat} (h : ¬ (d < N ∧ lf d < c ∧ ∃ e, e < N ∧ th e = 2 ∧ lf e = lf d)) : stE N lf th c W d = W d := by unfold stE; rw [if_neg h]
theorem stE_0 {N : Nat} {lf th : Nat → Nat} {W : Nat → Option Nat} : stE N lf th 0 W = W := funext (fun d => stE_f (fun h => absurd h.2.1 (Nat.not_lt_zero _)))
theorem stE_of {N c d v : Nat} {lf th : Nat → Nat} {W : Nat → Option Nat} (h : stE N lf th c W d = some v) : W d = some v := by
  by_cases q : d < N ∧ lf d < c ∧ ∃ e, e < N ∧ th e = 2 ∧ lf e = lf d
  · rw [stE_t q] at h; cases h
  · rw [stE_f q] at h; exact h
theorem stE_skip {N c : Nat} {lf th : Nat → Nat} {W : Nat → Option Nat} (hid : ∀ d, d < N → lf (lf d) = lf d) (h : ¬ (lf c = c ∧ ∃ e, e < N ∧ th e = 2 ∧ lf e = c)) : stE N lf th c W = stE N lf th (c + 1) W := funext (fun d => by
  by_cases q : d < N ∧ lf d < c ∧ ∃ e, e < N ∧ th e = 2 ∧ lf e = lf d
  · rw [stE_t q, stE_t ⟨q.1, by have := q.2.1; omega, q.2.2⟩]
  · rw [stE_f q, stE_f (fun w => ?_)]
    by_cases e : lf d = c
    · refine h ⟨by rw [← e]; exact hid d w.1, ?_⟩
      rw [← e]; exact w.2.2
    · exact q ⟨w.1, by have := w.2.1; omega, w.2.2⟩)
theorem stE_put {N c : Nat} {lf th : Nat → Nat} {W g1 g9 : Nat → Option Nat} (hg1 : g1 = stE N lf th c W) (h2 : ∃ e, e < N ∧ th e = 2 ∧ lf e = c) (h : (∀ d, d < N → g9 d = woF lf c g1 d) ∧ ∀ d, N ≤ d → g9 d = g1 d) : g9 = stE N lf th (c + 1) W := funext (fun d => by
  by_cases hd : d < N
  · rw [h.1 d hd]
    unfold woF
    by_cases e : lf d = c
    · rw [if_pos e, stE_t ⟨hd, by omega, by rw [e]; exact h2⟩]
    · rw [if_neg e, hg1]
      by_cases q : d < N ∧ lf d < c ∧ ∃ e, e < N ∧ th e = 2 ∧ lf e = lf d
      · rw [stE_t q, stE_t ⟨q.1, by have := q.2.1; omega, q.2.2⟩]
      · rw [stE_f q, stE_f (fun w => q ⟨w.1, by have := w.2.1; omega, w.2.2⟩)]
  · rw [h.2 d (by omega), hg1, stE_f (fun w => hd w.1), stE_f (fun w => hd w.1)])
theorem stE_N {N : Nat} {lf th : Nat → Nat} {W : Nat → Option Nat} (hlt : ∀ d, d < N → lf d < N) : ∀ d, d < N → stE N lf th N W d = emF N th lf W d := fun d hd => by
  by_cases q : ∃ e, e < N ∧ th e = 2 ∧ lf e = lf d
  · rw [stE_t ⟨hd, hlt d hd, q⟩, emF_t q]
  · rw [stE_f (fun w => q w.2.2), emF_f q]
theorem sp_add {N c : Nat} {sp : Prop} {lf th : Nat → Nat} (h : sp ↔ ∃ e, e < c ∧ lf e = e ∧ (∃ d, d < N ∧ th d = 1 ∧ lf d = e) ∧ ∃ d, d < N ∧ th d = 2 ∧ lf d = e) (hc : lf c = c) (h2 : ∃ d, d < N ∧ th d = 2 ∧ lf d = c) : (sp ∨ (∃ d, d < N ∧ th d = 1 ∧ lf d = c)) ↔ ∃ e, e < c + 1 ∧ lf e = e ∧ (∃ d, d < N ∧ th d = 1 ∧ lf d = e) ∧ ∃ d, d < N ∧ th d = 2 ∧ lf d = e := by
  constructor
  · rintro (q | q)
    · obtain ⟨e, q1, q2⟩ := h.mp q
      exact ⟨e, by omega, q2⟩
    · exact ⟨c, by omega, hc, q, h2⟩
  · rintro ⟨e, q1, q2, q3, q4⟩
    by_cases w : e = c
    · subst w; exact Or.inr q3
    · exact Or.inl (h.mpr ⟨e, by omega, q2, q3, q4⟩)
theorem sp_tr {n N : Nat} {lf th : Nat → Nat} {W : Nat → Option Nat} (h : ∃ e, e < N ∧ lf e = e ∧ (∃ d, d < N ∧ th d = 1 ∧ lf d = e) ∧ ∃ d, d < N ∧ th d = 2 ∧ lf d = e) : ¬ trP n N th lf W := by
  obtain ⟨e, _, _, ⟨d, hd, h1, he⟩, ⟨d2, hd2, h2, he2⟩⟩ := h
  exact fun w => w.1 d hd ⟨d2, hd2, h2, by rw [he2, he]⟩ h1
theorem nsp_tr {N : Nat} {lf th : Nat → Nat} (hlt : ∀ d, d < N → lf d < N) (hid : ∀ d, d < N → lf (lf d) = lf d) (h : ¬ ∃ e, e < N ∧ lf e = e ∧ (∃ d, d < N ∧ th d = 1 ∧ lf d = e) ∧ ∃ d, d < N ∧ th d = 2 ∧ lf d = e) : ∀ c, c < N → (∃ d, d < N ∧ th d = 2 ∧ lf d = lf c) → th c ≠ 1 := fun c hc h2 h1 => h ⟨lf c, hlt c hc, hid c hc, ⟨c, hc, h1, rfl⟩, h2⟩
theorem cntS_ext {n N : Nat} {b b' : Nat → Option Nat} (h : ∀ c, c < N → b c = b' c) : cntS n N b = cntS n N b' := cntQ_congr (fun A _ => by
  unfold ansP
  exact ⟨fun w => ⟨⟨fun c v hc e => w.1.1 c v hc (by rw [h c hc]; exact e), w.1.2⟩, w.2⟩, fun w => ⟨⟨fun c v hc e => w.1.1 c v hc (by rw [← h c hc]; exact e), w.1.2⟩, w.2⟩⟩)
theorem fil_ext {N : Nat} {b b' : Nat → Option Nat} (h : ∀ c, c < N → b c = b' c) : fil N b = fil N b' := cn_congr (fun c hc => by rw [h c hc])
theorem left_ext {n N : Nat} {A : Nat → Nat} {b b' : Nat → Option Nat} (h : ∀ c, c < N → b c = b' c) : leftN n N A b = leftN n N A b' := by
  have k : ∀ d, leB N b d ↔ leB N b' d := fun d => ⟨fun w c hc q => w c hc (by rw [h c hc]; exact q), fun w c hc q => w c hc (by rw [← h c hc]; exact q)⟩
  refine cn_congr (fun c hc => ?_)
  unfold cloP
  exact ⟨fun w q => w (fun d h1 h2 h3 => q d h1 ((k d).mp h2) h3), fun w q => w (fun d h1 h2 h3 => q d h1 ((k d).mpr h2) h3)⟩
theorem sub1b {k : Nat} (h : k < 1073741824) : nI k - nI 1 ≤ 0 ↔ k < 2 := by
  rw [Int32.le_iff_toInt_le, pk_sub_toInt (by omega) (by omega)]
  rw [show (0 : Int32).toInt = 0 from rfl]
  omega
theorem wo_of {lf : Nat → Nat} {s d v : Nat} {g : Nat → Option Nat} (h : woF lf s g d = some v) : g d = some v := by
  unfold woF at h
  by_cases q : lf d = s
  · rw [if_pos q] at h; cases h
  · rw [if_neg q] at h; exact h
theorem wo_ext {lf : Nat → Nat} {s d : Nat} {g g' : Nat → Option Nat} (h : g d = g' d) : woF lf s g d = woF lf s g' d := by unfold woF; rw [h]
theorem wo_no {N : Nat} {lf : Nat → Nat} {s : Nat} {g : Nat → Option Nat} (h : ¬ soP N s lf g) : ∀ d, d < N → woF lf s g d = g d := fun d hd => by
  unfold woF
  by_cases q : lf d = s
  · rw [if_pos q]; exact (Classical.byContradiction (fun w => h ⟨d, hd, q, fun e => w e.symm⟩))
  · rw [if_neg q]
theorem un_wo {N : Nat} {lf : Nat → Nat} {s : Nat} {g : Nat → Option Nat} (h : ∀ c d, c < N → d < N → lf c = lf d → g c = none → g d = none) : ∀ c d, c < N → d < N → lf c = lf d → woF lf s g c = none → woF lf s g d = none := fun c d hc hd e w => by
  unfold woF at w ⊢
  by_cases q : lf d = s
  · rw [if_pos q]
  · rw [if_neg q]; rw [if_neg (by rw [e]; exact q)] at w; exact h c d hc hd e w
theorem em_un {N : Nat} {lf th : Nat → Nat} {W : Nat → Option Nat} (hf : ∀ c, c < N → W c ≠ none) : ∀ c d, c < N → d < N → lf c = lf d → emF N th lf W c = none → emF N th lf W d = none := fun c d hc hd e w => by
  by_cases q : ∃ x, x < N ∧ th x = 2 ∧ lf x = lf c
  · exact emF_t (by rw [← e]; exact q)
  · rw [emF_f q] at w; exact absurd w (hf c hc)
theorem pb_of {N d s : Nat} {lf : Nat → Nat} {W g g4 : Nat → Option Nat} (hof : ofW g W) (hf : ∀ c, c < N → W c ≠ none) (hun : ∀ c d, c < N → d < N → lf c = lf d → g c = none → g d = none) (hso : soP N s lf g) (hd : d < N) (h4 : g4 d = woF lf s g d) : pbF lf s W g4 d = g d := by
  unfold pbF
  by_cases q : lf d = s
  · rw [if_pos q]
    obtain ⟨c, hc, e, hc0⟩ := hso
    cases hg : g d with
    | none => exact absurd (hun d c hd hc (by rw [q, e]) hg) hc0
    | some v => exact hof d v hg
  · rw [if_neg q, h4]; unfold woF; rw [if_neg q]
theorem fX11_isGood_126 : Cond.fieldLink RX11 126 (TX11 19).1 (TX11 19).2.1 (TX11 19).2.2.1 ∈ wsX11_isGood := List.mem_of_getElem? (i := 3) rfl
theorem iX11_isGood_X11 : ∀ w ∈ wsX110, w ∈ wsX11_isGood := by decide +kernel
theorem fX11_isGood_75 : Cond.fieldLink RX11 75 (TX11 7).1 (TX11 7).2.1 (TX11 7).2.2.1 ∈ wsX11_isGood := List.mem_of_getElem? (i := 6) rfl
theorem fX11_isGood_14 : Cond.fieldLink RX11 14 (TX11 8).1 (TX11 8).2.1 (TX11 8).2.2.1 ∈ wsX11_isGood := List.mem_of_getElem? (i := 7) rfl
theorem fX11_isGood_72 : Cond.fieldLink RX11 72 (TX11 6).1 (TX11 6).2.1 (TX11 6).2.2.1 ∈ wsX11_isGood := List.mem_of_getElem? (i := 8) rfl
theorem fX11_isGood_39 : Cond.fieldLink RX11 39 (TX11 18).1 (TX11 18).2.1 (TX11 18).2.2.1 ∈ wsX11_isGood := List.mem_of_getElem? (i := 4) rfl
theorem fX11_isGood_18 : Cond.fieldLink RX11 18 (TX11 10).1 (TX11 10).2.1 (TX11 10).2.2.1 ∈ wsX11_isGood := List.mem_of_getElem? (i := 5) rfl
theorem fX11_isGood_27 : Cond.fieldLink RX11 27 (TX11 14).1 (TX11 14).2.1 (TX11 14).2.2.1 ∈ wsX11_isGood := List.mem_of_getElem? (i := 1) rfl
theorem fX11_isGood_30 : Cond.fieldLink RX11 30 (TX11 15).1 (TX11 15).2.1 (TX11 15).2.2.1 ∈ wsX11_isGood := List.mem_of_getElem? (i := 2) rfl
set_option maxHeartbeats 4000000 in
set_option maxRecDepth 100000 in
theorem c_X11_isGood {g : ww_G} {l : Launch} {rM : Nat} {rTh : Nat} {rTe : Nat} {rPu : Nat} {rWh : Nat} {rGi : Nat} {rDr : Nat} {rTr : Nat} {rKn : Nat} {rRo : Nat} {rTx : Nat} {tn : Nat} {n : Nat} {N : Nat} {sy : Nat} {ez : Nat} {la : Int32} {ma : Int32} {x : Int64} {md : Prop} {rws : Nat} {sz : Nat} {th : Nat → Nat} {te : Nat → Nat} {gi : Nat → Option Nat} {dr : Nat → Int32} {tr : Nat → Option Nat} {kn : Nat → Option Nat} {ro : Nat → Nat} (hn : (n = 4 ∧ N = 16) ∨ (n = 6 ∧ N = 36)) (hsy : sy < 4) (hez : ez < 3) (hth : ∀ c, th c < 3) (hvg : (∀ c v, gi c = some v → v < n)) (hvt : (∀ c v, tr c = some v → v < n)) : CT g l yX11_isGood wsX11_isGood (ww_rm 6) [.ref rM] ([(rM, .inr (12, [.int (nI tn), .int (nI n), .int (nI (n / 2)), .int (nI 2), .int (nI sy), .ref rTh, .int (nI ez), .int la, .int ma, .long x, .ref rTe, .int (bz md), .ref rPu, .ref rWh, .ref rGi, .ref rDr, .ref rTr, .ref rKn, .ref rRo, .int (nI rws), .int (nI sz), .ref rTx])), (rTh, .inl (g.2.1, 36, .inl (nO th))), (rTe, .inl (g.2.1, 7, .inl (nO te))), (rGi, .inl (g.2.1, 36, .inl (eb gi))), (rDr, .inl (g.2.1, 36, .inl dr)), (rTr, .inl (g.2.1, 36, .inl (eb tr))), (rKn, .inl (g.2.1, 36, .inl (eb kn))), (rRo, .inl (g.2.1, 36, .inl (nO ro)))]) (S := (Nat → Option Nat) × (Nat → Option Nat) × (Nat → Option Nat) × (Nat → Option Nat) × (Nat → Nat) × Nat) (fun vv9 u => vv9 = some (.int (bz ((tryF n N (lfS n sy) th ez la ma x (te 1) (te 2) (te 3)).1))) ∧ ((tryF n N (lfS n sy) th ez la ma x (te 1) (te 2) (te 3)).1 → u.2.1 = (tryF n N (lfS n sy) th ez la ma x (te 1) (te 2) (te 3)).2.2.2.2.2.1 ∧ ∀ c, c < N → u.1 c = (tryF n N (lfS n sy) th ez la ma x (te 1) (te 2) (te 3)).2.2.2.2.2.2 c) ∧ ((∀ c v, u.1 c = some v → v < n)) ∧ ((∀ c v, u.2.2.1 c = some v → v < n))) (fun u => [(rM, .inr (12, [.int (nI tn), .int (nI n), .int (nI (n / 2)), .int (nI 2), .int (nI sy), .ref rTh, .int (nI ez), .int la, .int ma, .long ((tryF n N (lfS n sy) th ez la ma x (te 1) (te 2) (te 3)).2.1), .ref rTe, .int (bz md), .ref rPu, .ref rWh, .ref rGi, .ref rDr, .ref rTr, .ref rKn, .ref rRo, .int (nI u.2.2.2.2.2), .int (nI sz), .ref rTx])), (rTh, .inl (g.2.1, 36, .inl (nO th))), (rTe, .inl (g.2.1, 7, .inl (nO (te4 te ((tryF n N (lfS n sy) th ez la ma x (te 1) (te 2) (te 3)).2.2.1) ((tryF n N (lfS n sy) th ez la ma x (te 1) (te 2) (te 3)).2.2.2.1) ((tryF n N (lfS n sy) th ez la ma x (te 1) (te 2) (te 3)).2.2.2.2.1))))), (rGi, .inl (g.2.1, 36, .inl (eb u.1))), (rDr, .inl (g.2.1, 36, .inl (eb u.2.1))), (rTr, .inl (g.2.1, 36, .inl (eb u.2.2.1))), (rKn, .inl (g.2.1, 36, .inl (eb u.2.2.2.1))), (rRo, .inl (g.2.1, 36, .inl (nO u.2.2.2.2.1)))]) := by
  refine CT.of cX11_isGood 5 (some .boolean) RX11 (by decide +kernel) rfl rfl (Nat.le_of_ble_eq_true rfl) ?_
  intro X hg hl C hret
  subst hg; subst hl
  show RW X 0 0 0 [(0, .ref rM)] [] [(rM, .inr (12, [.int (nI tn), .int (nI n), .int (nI (n / 2)), .int (nI 2), .int (nI sy), .ref rTh, .int (nI ez), .int la, .int ma, .long x, .ref rTe, .int (bz md), .ref rPu, .ref rWh, .ref rGi, .ref rDr, .ref rTr, .ref rKn, .ref rRo, .int (nI rws), .int (nI sz), .ref rTx])), (rTh, .inl (X.1.2.1, 36, .inl (nO th))), (rTe, .inl (X.1.2.1, 7, .inl (nO te))), (rGi, .inl (X.1.2.1, 36, .inl (eb gi))), (rDr, .inl (X.1.2.1, 36, .inl dr)), (rTr, .inl (X.1.2.1, 36, .inl (eb tr))), (rKn, .inl (X.1.2.1, 36, .inl (eb kn))), (rRo, .inl (X.1.2.1, 36, .inl (nO ro)))]
  refine r_aload_n C dX11_isGood_0 0 rfl rfl ?_
  refine r_callV0 (n := 0) (ws' := fun (u : (Nat → Option Nat)) => [(rM, .inr (12, [.int (nI tn), .int (nI n), .int (nI (n / 2)), .int (nI 2), .int (nI sy), .ref rTh, .int (nI ez), .int la, .int ma, .long ((drawW n N 200 x (te 1)).2.1), .ref rTe, .int (bz md), .ref rPu, .ref rWh, .ref rGi, .ref rDr, .ref rTr, .ref rKn, .ref rRo, .int (nI rws), .int (nI sz), .ref rTx])), (rTh, .inl (X.1.2.1, 36, .inl (nO th))), (rTe, .inl (X.1.2.1, 7, .inl (nO (uO te 1 (drawW n N 200 x (te 1)).2.2.1)))), (rGi, .inl (X.1.2.1, 36, .inl (eb gi))), (rDr, .inl (X.1.2.1, 36, .inl (eb u))), (rTr, .inl (X.1.2.1, 36, .inl (eb tr))), (rKn, .inl (X.1.2.1, 36, .inl (eb kn))), (rRo, .inl (X.1.2.1, 36, .inl (nO ro)))]) C dX11_isGood_1 (c_X11_draw (g := X.1) (l := X.2.2.1) (rM := rM) (rTh := rTh) (rTe := rTe) (rPu := rPu) (rWh := rWh) (rGi := rGi) (rDr := rDr) (rTr := rTr) (rKn := rKn) (rRo := rRo) (rTx := rTx) (tn := tn) (n := n) (N := N) (sy := sy) (ez := ez) (la := la) (ma := ma) (x := x) (md := md) (rws := rws) (sz := sz) (te := te) (dr := dr) (hn := (by first | assumption | omega))) gX11_isGood_X11_draw rfl (by decide +kernel) rfl ⟨Nat.le_of_ble_eq_true rfl, Nat.le_of_ble_eq_true rfl⟩ ⟨rfl, rfl⟩ ⟨Nat.zero_le _, Nat.zero_le _⟩ (rest := []) rfl (Nat.le_of_ble_eq_true rfl) 0 rfl rfl [0, 2, 4] (by decide) rfl (fun u => Eq.trans (b := [rM, rTe, rDr]) rfl rfl) (fun u => rfl) (fun v u hp => ?_)
  obtain ⟨d9, rfl⟩ : ∃ z, z = u := ⟨_, rfl⟩
  obtain ⟨rfl, p1_0⟩ := hp
  show RW X 0 0 4 [(0, .ref rM)] [.int (bz ((drawW n N 200 x (te 1)).1 = true))] [(rM, .inr (12, [.int (nI tn), .int (nI n), .int (nI (n / 2)), .int (nI 2), .int (nI sy), .ref rTh, .int (nI ez), .int la, .int ma, .long ((drawW n N 200 x (te 1)).2.1), .ref rTe, .int (bz md), .ref rPu, .ref rWh, .ref rGi, .ref rDr, .ref rTr, .ref rKn, .ref rRo, .int (nI rws), .int (nI sz), .ref rTx])), (rTh, .inl (X.1.2.1, 36, .inl (nO th))), (rTe, .inl (X.1.2.1, 7, .inl (nO (uO te 1 (drawW n N 200 x (te 1)).2.2.1)))), (rGi, .inl (X.1.2.1, 36, .inl (eb gi))), (rDr, .inl (X.1.2.1, 36, .inl (eb d9))), (rTr, .inl (X.1.2.1, 36, .inl (eb tr))), (rKn, .inl (X.1.2.1, 36, .inl (eb kn))), (rRo, .inl (X.1.2.1, 36, .inl (nO ro)))]
  rw [te4_1 (te := te)]
  show RW X 0 0 4 [(0, .ref rM)] [.int (bz ((drawW n N 200 x (te 1)).1 = true))] [(rM, .inr (12, [.int (nI tn), .int (nI n), .int (nI (n / 2)), .int (nI 2), .int (nI sy), .ref rTh, .int (nI ez), .int la, .int ma, .long ((drawW n N 200 x (te 1)).2.1), .ref rTe, .int (bz md), .ref rPu, .ref rWh, .ref rGi, .ref rDr, .ref rTr, .ref rKn, .ref rRo, .int (nI rws), .int (nI sz), .ref rTx])), (rTh, .inl (X.1.2.1, 36, .inl (nO th))), (rTe, .inl (X.1.2.1, 7, .inl (nO (te4 te ((drawW n N 200 x (te 1)).2.2.1) (te 2) (te 3))))), (rGi, .inl (X.1.2.1, 36, .inl (eb gi))), (rDr, .inl (X.1.2.1, 36, .inl (eb d9))), (rTr, .inl (X.1.2.1, 36, .inl (eb tr))), (rKn, .inl (X.1.2.1, 36, .inl (eb kn))), (rRo, .inl (X.1.2.1, 36, .inl (nO ro)))]
  refine r_if_ne (tgt := 9) C dX11_isGood_4 (by decide) (fun h4 => ?_) (fun h4 => ?_)
  · have h4 : (drawW n N 200 x (te 1)).1 = true := bz_n0.mp h4
    refine r_iconst C dX11_isGood_9 (v := nI 0) (by decide) ?_
    refine r_istore_n C dX11_isGood_10 rfl (by decide) [1, 0] (lv' := [(0, .ref rM), (1, .int (nI 0))]) rfl ?_
    have L11 : ∀ (d11 : Nat) (i : Nat) (g1 : Nat → Option Nat), (36 - i) < d11 → (i ≤ 36) → (∀ c, c < i → g1 c = d9 c) → RW X 0 0 11 [(0, .ref rM), (1, .int (nI i))] [] [(rM, .inr (12, [.int (nI tn), .int (nI n), .int (nI (n / 2)), .int (nI 2), .int (nI sy), .ref rTh, .int (nI ez), .int la, .int ma, .long ((drawW n N 200 x (te 1)).2.1), .ref rTe, .int (bz md), .ref rPu, .ref rWh, .ref rGi, .ref rDr, .ref rTr, .ref rKn, .ref rRo, .int (nI rws), .int (nI sz), .ref rTx])), (rTh, .inl (X.1.2.1, 36, .inl (nO th))), (rTe, .inl (X.1.2.1, 7, .inl (nO (te4 te ((drawW n N 200 x (te 1)).2.2.1) (te 2) (te 3))))), (rGi, .inl (X.1.2.1, 36, .inl (eb g1))), (rDr, .inl (X.1.2.1, 36, .inl (eb d9))), (rTr, .inl (X.1.2.1, 36, .inl (eb tr))), (rKn, .inl (X.1.2.1, 36, .inl (eb kn))), (rRo, .inl (X.1.2.1, 36, .inl (nO ro)))] := by
      intro d11
      induction d11 with
      | zero => intro i g1 hd11; exact absurd hd11 (Nat.not_lt_zero _)
      | succ d11 ih11 =>
        intro i g1 hd11 hi hg1
        refine r_iload_n C dX11_isGood_11 1 rfl rfl ?_
        refine r_bipush C dX11_isGood_12 (v := nI 36) (by decide) ?_
        refine r_icmp_ge (tgt := 35) C dX11_isGood_14 (by decide) (fun h14 => ?_) (fun h14 => ?_)
        · have h14 : 36 ≤ i := (nI_leI (by omega) (by omega)).mp h14
          refine r_arrI 3 rfl (fun j q => congrArg eo (hg1 j (by omega))) (ws' := [(rM, .inr (12, [.int (nI tn), .int (nI n), .int (nI (n / 2)), .int (nI 2), .int (nI sy), .ref rTh, .int (nI ez), .int la, .int ma, .long ((drawW n N 200 x (te 1)).2.1), .ref rTe, .int (bz md), .ref rPu, .ref rWh, .ref rGi, .ref rDr, .ref rTr, .ref rKn, .ref rRo, .int (nI rws), .int (nI sz), .ref rTx])), (rTh, .inl (X.1.2.1, 36, .inl (nO th))), (rTe, .inl (X.1.2.1, 7, .inl (nO (te4 te ((drawW n N 200 x (te 1)).2.2.1) (te 2) (te 3))))), (rGi, .inl (X.1.2.1, 36, .inl (eb d9))), (rDr, .inl (X.1.2.1, 36, .inl (eb d9))), (rTr, .inl (X.1.2.1, 36, .inl (eb tr))), (rKn, .inl (X.1.2.1, 36, .inl (eb kn))), (rRo, .inl (X.1.2.1, 36, .inl (nO ro)))]) rfl ?_
          have hW : d9 = (drawW n N 200 x (te 1)).2.2.2 := p1_0 h4
          have hdw := drawW_ok hn 200 x (te 1) h4
          rw [← hW] at hdw
          refine r_iconst C dX11_isGood_35 (v := bz False) (by rw [bz_f id]; decide) ?_
          refine r_istore_n C dX11_isGood_36 rfl (by decide) [1, 0] (lv' := [(0, .ref rM), (1, .int (bz False))]) rfl ?_
          refine r_aload_n C dX11_isGood_37 0 rfl rfl ?_
          refine r_iconst C dX11_isGood_38 (v := nI 0) (by decide) ?_
          refine r_put C dX11_isGood_39 iX11_isGood_X11 tyX11 tyX11_ok nmX11 19 fX11_isGood_126 0 rfl rfl (by decide) rfl rfl rfl rfl (Nat.le_of_ble_eq_true rfl) (ws' := [(rM, .inr (12, [.int (nI tn), .int (nI n), .int (nI (n / 2)), .int (nI 2), .int (nI sy), .ref rTh, .int (nI ez), .int la, .int ma, .long ((drawW n N 200 x (te 1)).2.1), .ref rTe, .int (bz md), .ref rPu, .ref rWh, .ref rGi, .ref rDr, .ref rTr, .ref rKn, .ref rRo, .int (nI 0), .int (nI sz), .ref rTx])), (rTh, .inl (X.1.2.1, 36, .inl (nO th))), (rTe, .inl (X.1.2.1, 7, .inl (nO (te4 te ((drawW n N 200 x (te 1)).2.2.1) (te 2) (te 3))))), (rGi, .inl (X.1.2.1, 36, .inl (eb d9))), (rDr, .inl (X.1.2.1, 36, .inl (eb d9))), (rTr, .inl (X.1.2.1, 36, .inl (eb tr))), (rKn, .inl (X.1.2.1, 36, .inl (eb kn))), (rRo, .inl (X.1.2.1, 36, .inl (nO ro)))]) rfl ?_
          refine r_iconst C dX11_isGood_42 (v := nI 0) (by decide) ?_
          refine r_istore_n C dX11_isGood_43 rfl (by decide) [1, 2, 0] (lv' := [(0, .ref rM), (1, .int (bz False)), (2, .int (nI 0))]) rfl ?_
          have L44 : ∀ (d44 : Nat) (c : Nat) (sp : Prop) (k : Nat) (g1 : Nat → Option Nat) (r1 : Nat → Nat), (N - c) < d44 → (c ≤ N) → (sp ↔ ∃ e, e < c ∧ lfS n sy e = e ∧ (∃ d, d < N ∧ th d = 1 ∧ lfS n sy d = e) ∧ ∃ d, d < N ∧ th d = 2 ∧ lfS n sy d = e) → (g1 = stE N (lfS n sy) th c d9) → (k = cn (rowP N (lfS n sy) th (emF N th (lfS n sy) d9)) c) → (∀ j, j < k → r1 j = kthV (rowP N (lfS n sy) th (emF N th (lfS n sy) d9)) j) → RW X 0 0 44 [(0, .ref rM), (1, .int (bz sp)), (2, .int (nI c))] [] [(rM, .inr (12, [.int (nI tn), .int (nI n), .int (nI (n / 2)), .int (nI 2), .int (nI sy), .ref rTh, .int (nI ez), .int la, .int ma, .long ((drawW n N 200 x (te 1)).2.1), .ref rTe, .int (bz md), .ref rPu, .ref rWh, .ref rGi, .ref rDr, .ref rTr, .ref rKn, .ref rRo, .int (nI k), .int (nI sz), .ref rTx])), (rTh, .inl (X.1.2.1, 36, .inl (nO th))), (rTe, .inl (X.1.2.1, 7, .inl (nO (te4 te ((drawW n N 200 x (te 1)).2.2.1) (te 2) (te 3))))), (rGi, .inl (X.1.2.1, 36, .inl (eb g1))), (rDr, .inl (X.1.2.1, 36, .inl (eb d9))), (rTr, .inl (X.1.2.1, 36, .inl (eb tr))), (rKn, .inl (X.1.2.1, 36, .inl (eb kn))), (rRo, .inl (X.1.2.1, 36, .inl (nO r1)))] := by
            intro d44
            induction d44 with
            | zero => intro c sp k g1 r1 hd44; exact absurd hd44 (Nat.not_lt_zero _)
            | succ d44 ih44 =>
              intro c sp k g1 r1 hd44 hc hsp hg1 hk hr1
              refine r_iload_n C dX11_isGood_44 2 rfl rfl ?_
              refine r_aload_n C dX11_isGood_45 0 rfl rfl ?_
              refine r_callV0 (n := 0) (ws' := fun (u : Unit) => [(rM, .inr (12, [.int (nI tn), .int (nI n), .int (nI (n / 2)), .int (nI 2), .int (nI sy), .ref rTh, .int (nI ez), .int la, .int ma, .long ((drawW n N 200 x (te 1)).2.1), .ref rTe, .int (bz md), .ref rPu, .ref rWh, .ref rGi, .ref rDr, .ref rTr, .ref rKn, .ref rRo, .int (nI k), .int (nI sz), .ref rTx])), (rTh, .inl (X.1.2.1, 36, .inl (nO th))), (rTe, .inl (X.1.2.1, 7, .inl (nO (te4 te ((drawW n N 200 x (te 1)).2.2.1) (te 2) (te 3))))), (rGi, .inl (X.1.2.1, 36, .inl (eb g1))), (rDr, .inl (X.1.2.1, 36, .inl (eb d9))), (rTr, .inl (X.1.2.1, 36, .inl (eb tr))), (rKn, .inl (X.1.2.1, 36, .inl (eb kn))), (rRo, .inl (X.1.2.1, 36, .inl (nO r1)))]) C dX11_isGood_46 (c_X11_cells (g := X.1) (l := X.2.2.1) (rM := rM) (rTh := rTh) (rTe := rTe) (rPu := rPu) (rWh := rWh) (rGi := rGi) (rDr := rDr) (rTr := rTr) (rKn := rKn) (rRo := rRo) (rTx := rTx) (tn := tn) (n := n) (N := N) (sy := sy) (ez := ez) (la := la) (ma := ma) (x := (drawW n N 200 x (te 1)).2.1) (md := md) (rws := k) (sz := sz) (hn := (by first | assumption | omega))) gX11_isGood_X11_cells rfl (by decide +kernel) rfl ⟨Nat.le_of_ble_eq_true rfl, Nat.le_of_ble_eq_true rfl⟩ ⟨rfl, rfl⟩ ⟨Nat.zero_le _, Nat.zero_le _⟩ (rest := [.int (nI c)]) rfl (Nat.le_of_ble_eq_true rfl) 0 rfl rfl [0] (by decide) rfl (fun u => Eq.trans (b := [rM]) rfl rfl) (fun u => rfl) (fun v u hp => ?_)
              obtain rfl := hp
              show RW X 0 0 49 [(0, .ref rM), (1, .int (bz sp)), (2, .int (nI c))] [.int (nI N), .int (nI c)] [(rM, .inr (12, [.int (nI tn), .int (nI n), .int (nI (n / 2)), .int (nI 2), .int (nI sy), .ref rTh, .int (nI ez), .int la, .int ma, .long ((drawW n N 200 x (te 1)).2.1), .ref rTe, .int (bz md), .ref rPu, .ref rWh, .ref rGi, .ref rDr, .ref rTr, .ref rKn, .ref rRo, .int (nI k), .int (nI sz), .ref rTx])), (rTh, .inl (X.1.2.1, 36, .inl (nO th))), (rTe, .inl (X.1.2.1, 7, .inl (nO (te4 te ((drawW n N 200 x (te 1)).2.2.1) (te 2) (te 3))))), (rGi, .inl (X.1.2.1, 36, .inl (eb g1))), (rDr, .inl (X.1.2.1, 36, .inl (eb d9))), (rTr, .inl (X.1.2.1, 36, .inl (eb tr))), (rKn, .inl (X.1.2.1, 36, .inl (eb kn))), (rRo, .inl (X.1.2.1, 36, .inl (nO r1)))]
              refine r_icmp_ge (tgt := 132) C dX11_isGood_49 (by decide) (fun h49 => ?_) (fun h49 => ?_)
              · have h49 : N ≤ c := (nI_leI (by omega) (by omega)).mp h49
                obtain rfl : N = c := by omega
                have hag1 : ∀ d, d < N → g1 d = emF N th (lfS n sy) d9 d := fun d q => by rw [hg1]; exact stE_N (fun d q => lfS_lt hn q) d q
                have hvg1 : ∀ d v, g1 d = some v → v < n := fun d v e => by
                  rw [hg1] at e; exact hdw.1.1 d v (stE_of e)
                have hce : cntS n N g1 = cntS n N (emF N th (lfS n sy) d9) := cntS_ext hag1
                refine r_iload_n C dX11_isGood_132 1 rfl rfl ?_
                refine r_if_ne (tgt := 145) C dX11_isGood_133 (by decide) (fun h133 => ?_) (fun h133 => ?_)
                · have h133 : sp := bz_n0.mp h133
                  refine r_iconst C dX11_isGood_145 (v := nI 0) (by decide) ?_
                  have hT : tryF n N (lfS n sy) th ez la ma x (te 1) (te 2) (te 3) = _ := tryF_f (fun w => (show ¬ trP n N th (lfS n sy) d9 from fun w => sp_tr (hsp.mp h133) w) (by rw [hW]; exact w.2))
                  rw [hT] at hret
                  refine r_top (y := bz False) ((bz_f id).symm) ?_
                  exact hret _ _ _ (g1, d9, tr, kn, r1, k) ⟨rfl, False.elim, hvg1, hvt⟩ (Or.inr ⟨_, rfl, dX11_isGood_146, Or.inr ⟨rfl, bz_01 _⟩⟩)
                · have h133 : ¬ (sp) := bz_0.mp h133
                  refine r_aload_n C dX11_isGood_136 0 rfl rfl ?_
                  refine r_iconst C dX11_isGood_137 (v := nI 2) (by decide) ?_
                  refine r_callV0 (n := 1) (ws' := fun (u : (Nat → Option Nat)) => [(rM, .inr (12, [.int (nI tn), .int (nI n), .int (nI (n / 2)), .int (nI 2), .int (nI sy), .ref rTh, .int (nI ez), .int la, .int ma, .long ((drawW n N 200 x (te 1)).2.1), .ref rTe, .int (bz md), .ref rPu, .ref rWh, .ref rGi, .ref rDr, .ref rTr, .ref rKn, .ref rRo, .int (nI k), .int (nI sz), .ref rTx])), (rTh, .inl (X.1.2.1, 36, .inl (nO th))), (rTe, .inl (X.1.2.1, 7, .inl (nO (te4 te ((drawW n N 200 x (te 1)).2.2.1) (te 2) (te 3))))), (rGi, .inl (X.1.2.1, 36, .inl (eb g1))), (rDr, .inl (X.1.2.1, 36, .inl (eb d9))), (rTr, .inl (X.1.2.1, 36, .inl (eb u))), (rKn, .inl (X.1.2.1, 36, .inl (eb kn))), (rRo, .inl (X.1.2.1, 36, .inl (nO r1)))]) C dX11_isGood_138 (c_X11_countUpTo (g := X.1) (l := X.2.2.1) (rM := rM) (rTh := rTh) (rTe := rTe) (rPu := rPu) (rWh := rWh) (rGi := rGi) (rDr := rDr) (rTr := rTr) (rKn := rKn) (rRo := rRo) (rTx := rTx) (tn := tn) (n := n) (N := N) (sy := sy) (ez := ez) (la := la) (ma := ma) (x := ((drawW n N 200 x (te 1)).2.1)) (md := md) (rws := k) (sz := sz) (tr0 := tr) (gi := g1) (most := 2) (hn := (by first | assumption | omega)) (hm0 := (by omega)) (hm1 := (by omega)) (hvt0 := hvt) (hvg := hvg1)) gX11_isGood_X11_countUpTo rfl (by decide +kernel) rfl ⟨Nat.le_of_ble_eq_true rfl, Nat.le_of_ble_eq_true rfl⟩ ⟨rfl, rfl⟩ ⟨Nat.zero_le _, Nat.zero_le _⟩ (rest := []) rfl (Nat.le_of_ble_eq_true rfl) 0 rfl rfl [0, 5, 3] (by decide) rfl (fun u => Eq.trans (b := [rM, rTr, rGi]) rfl rfl) (fun u => rfl) (fun v u hp => ?_)
                  obtain ⟨t2, rfl⟩ : ∃ z, z = u := ⟨_, rfl⟩
                  obtain ⟨rfl, p138_0⟩ := hp
                  show RW X 0 0 141 [(0, .ref rM), (1, .int (bz sp)), (2, .int (nI N))] [.int (nI (min 2 (0 + cntS n N g1)))] [(rM, .inr (12, [.int (nI tn), .int (nI n), .int (nI (n / 2)), .int (nI 2), .int (nI sy), .ref rTh, .int (nI ez), .int la, .int ma, .long ((drawW n N 200 x (te 1)).2.1), .ref rTe, .int (bz md), .ref rPu, .ref rWh, .ref rGi, .ref rDr, .ref rTr, .ref rKn, .ref rRo, .int (nI k), .int (nI sz), .ref rTx])), (rTh, .inl (X.1.2.1, 36, .inl (nO th))), (rTe, .inl (X.1.2.1, 7, .inl (nO (te4 te ((drawW n N 200 x (te 1)).2.2.1) (te 2) (te 3))))), (rGi, .inl (X.1.2.1, 36, .inl (eb g1))), (rDr, .inl (X.1.2.1, 36, .inl (eb d9))), (rTr, .inl (X.1.2.1, 36, .inl (eb t2))), (rKn, .inl (X.1.2.1, 36, .inl (eb kn))), (rRo, .inl (X.1.2.1, 36, .inl (nO r1)))]
                  refine r_iconst C dX11_isGood_141 (v := nI 1) (by decide) ?_
                  refine r_icmp_le (tgt := 147) C dX11_isGood_142 (by decide) (fun h142 => ?_) (fun h142 => ?_)
                  · have h142 : (min 2 (0 + cntS n N g1)) ≤ 1 := (nI_leI (by omega) (by omega)).mp h142
                    have htr : trP n N th (lfS n sy) d9 := ⟨nsp_tr (fun d q => lfS_lt hn q) (fun d q => lfS_id hn hsy q) (fun w => h133 (hsp.mpr w)), by rw [← hce]; omega⟩
                    have hkL : rlN N (lfS n sy) th d9 = k := hk.symm
                    have hkN : k ≤ N := by rw [hk]; exact cn_le N
                    refine r_aload_n C dX11_isGood_147 0 rfl rfl ?_
                    refine r_get C dX11_isGood_148 iX11_isGood_X11 19 fX11_isGood_126 0 rfl rfl (by decide) rfl ?_
                    refine r_iconst C dX11_isGood_151 (v := nI 1) (by decide) ?_
                    refine r_isub C dX11_isGood_152 (v := nI k - nI 1) rfl ?_
                    refine r_istore_n C dX11_isGood_153 rfl (by decide) [1, 2, 0] (lv' := [(0, .ref rM), (1, .int (bz sp)), (2, .int (nI k - nI 1))]) rfl ?_
                    have L154 : ∀ (d154 : Nat) (m : Nat) (x1 : Int64) (r2 : Nat → Nat), m < d154 → (m ≤ k) → (mixF (k - 1) (drawW n N 200 x (te 1)).2.1 r1 = mixF (m - 1) x1 r2) → RW X 0 0 154 [(0, .ref rM), (2, .int (nI m - nI 1))] [] [(rM, .inr (12, [.int (nI tn), .int (nI n), .int (nI (n / 2)), .int (nI 2), .int (nI sy), .ref rTh, .int (nI ez), .int la, .int ma, .long x1, .ref rTe, .int (bz md), .ref rPu, .ref rWh, .ref rGi, .ref rDr, .ref rTr, .ref rKn, .ref rRo, .int (nI k), .int (nI sz), .ref rTx])), (rTh, .inl (X.1.2.1, 36, .inl (nO th))), (rTe, .inl (X.1.2.1, 7, .inl (nO (te4 te ((drawW n N 200 x (te 1)).2.2.1) (te 2) (te 3))))), (rGi, .inl (X.1.2.1, 36, .inl (eb g1))), (rDr, .inl (X.1.2.1, 36, .inl (eb d9))), (rTr, .inl (X.1.2.1, 36, .inl (eb t2))), (rKn, .inl (X.1.2.1, 36, .inl (eb kn))), (rRo, .inl (X.1.2.1, 36, .inl (nO r2)))] := by
                      intro d154
                      induction d154 with
                      | zero => intro m x1 r2 hd154; exact absurd hd154 (Nat.not_lt_zero _)
                      | succ d154 ih154 =>
                        intro m x1 r2 hd154 hm hF
                        refine r_iload_n C dX11_isGood_154 1 rfl rfl ?_
                        refine r_if_le (tgt := 200) C dX11_isGood_155 (by decide) (fun h155 => ?_) (fun h155 => ?_)
                        · have hk1 : m < 2 := (sub1b (k := m) (by omega)).mp h155
                          have hF0 : mixF (k - 1) (drawW n N 200 x (te 1)).2.1 r1 = (x1, r2) := by rw [hF, show m - 1 = 0 by omega]; rfl
                          have hrow : ∀ j, j < k → r2 j < N := fun j q => by
                            have h9 := mix_in (k - 1) (drawW n N 200 x (te 1)).2.1 r1 (fun c => c < N) (fun i w => by rw [hr1 i (by omega)]; exact (kthV_lt (P := rowP N (lfS n sy) th (emF N th (lfS n sy) d9)) (N := N) (show i < cn (rowP N (lfS n sy) th (emF N th (lfS n sy) d9)) N by rw [← hk]; omega)).1) j (by omega)
                            rw [hF0] at h9; exact h9
                          have hc0 : cntS n N (emF N th (lfS n sy) d9) < 2 := by have := htr.2; omega
                          refine r_iconst C dX11_isGood_200 (v := nI 0) (by decide) ?_
                          refine r_istore_n C dX11_isGood_201 rfl (by decide) [1, 0] (lv' := [(0, .ref rM), (2, .int (nI 0))]) rfl ?_
                          rw [te4_0]
                          have L202 : ∀ (d202 : Nat) (i : Nat) (g2 : Nat → Option Nat) (gm : Nat → Option Nat) (p1 : Nat) (t1 : Nat → Option Nat), (k - i) < d202 → (i ≤ k) → (goF n N (lfS n sy) r2 k 0 (emF N th (lfS n sy) d9) (te 3) = goF n N (lfS n sy) r2 (k - i) i gm p1) → (∀ c, c < N → g2 c = gm c) → ((∀ c v, g2 c = some v → v < n)) → (ofW gm d9) → (∀ c d, c < N → d < N → lfS n sy c = lfS n sy d → gm c = none → gm d = none) → (cntS n N gm < 2) → ((∀ c v, t1 c = some v → v < n)) → RW X 0 0 202 [(0, .ref rM), (2, .int (nI i))] [] [(rM, .inr (12, [.int (nI tn), .int (nI n), .int (nI (n / 2)), .int (nI 2), .int (nI sy), .ref rTh, .int (nI ez), .int la, .int ma, .long x1, .ref rTe, .int (bz md), .ref rPu, .ref rWh, .ref rGi, .ref rDr, .ref rTr, .ref rKn, .ref rRo, .int (nI k), .int (nI sz), .ref rTx])), (rTh, .inl (X.1.2.1, 36, .inl (nO th))), (rTe, .inl (X.1.2.1, 7, .inl (nO (te4 te ((drawW n N 200 x (te 1)).2.2.1) (te 2 + i) p1)))), (rGi, .inl (X.1.2.1, 36, .inl (eb g2))), (rDr, .inl (X.1.2.1, 36, .inl (eb d9))), (rTr, .inl (X.1.2.1, 36, .inl (eb t1))), (rKn, .inl (X.1.2.1, 36, .inl (eb kn))), (rRo, .inl (X.1.2.1, 36, .inl (nO r2)))] := by
                            intro d202
                            induction d202 with
                            | zero => intro i g2 gm p1 t1 hd202; exact absurd hd202 (Nat.not_lt_zero _)
                            | succ d202 ih202 =>
                              intro i g2 gm p1 t1 hd202 hi hgo hag hv2 hof hun hc2 hvt1
                              refine r_iload_n C dX11_isGood_202 1 rfl rfl ?_
                              refine r_aload_n C dX11_isGood_203 0 rfl rfl ?_
                              refine r_get C dX11_isGood_204 iX11_isGood_X11 19 fX11_isGood_126 0 rfl rfl (by decide) rfl ?_
                              refine r_icmp_ge (tgt := 268) C dX11_isGood_207 (by decide) (fun h207 => ?_) (fun h207 => ?_)
                              · have h207 : k ≤ i := (nI_leI (by omega) (by omega)).mp h207
                                refine r_aload_n C dX11_isGood_268 0 rfl rfl ?_
                                refine r_callV0 (n := 0) (ws' := fun (u : Unit) => [(rM, .inr (12, [.int (nI tn), .int (nI n), .int (nI (n / 2)), .int (nI 2), .int (nI sy), .ref rTh, .int (nI ez), .int la, .int ma, .long x1, .ref rTe, .int (bz md), .ref rPu, .ref rWh, .ref rGi, .ref rDr, .ref rTr, .ref rKn, .ref rRo, .int (nI k), .int (nI sz), .ref rTx])), (rTh, .inl (X.1.2.1, 36, .inl (nO th))), (rTe, .inl (X.1.2.1, 7, .inl (nO (te4 te ((drawW n N 200 x (te 1)).2.2.1) (te 2 + i) p1)))), (rGi, .inl (X.1.2.1, 36, .inl (eb g2))), (rDr, .inl (X.1.2.1, 36, .inl (eb d9))), (rTr, .inl (X.1.2.1, 36, .inl (eb t1))), (rKn, .inl (X.1.2.1, 36, .inl (eb kn))), (rRo, .inl (X.1.2.1, 36, .inl (nO r2)))]) C dX11_isGood_269 (c_X11_countGivens (g := X.1) (l := X.2.2.1) (rM := rM) (rTh := rTh) (rTe := rTe) (rPu := rPu) (rWh := rWh) (rGi := rGi) (rDr := rDr) (rTr := rTr) (rKn := rKn) (rRo := rRo) (rTx := rTx) (tn := tn) (n := n) (N := N) (sy := sy) (ez := ez) (la := la) (ma := ma) (x := x1) (md := md) (rws := k) (sz := sz) (gi := g2) (hn := (by first | assumption | omega)) (hk := hv2)) gX11_isGood_X11_countGivens rfl (by decide +kernel) rfl ⟨Nat.le_of_ble_eq_true rfl, Nat.le_of_ble_eq_true rfl⟩ ⟨rfl, rfl⟩ ⟨Nat.zero_le _, Nat.zero_le _⟩ (rest := []) rfl (Nat.le_of_ble_eq_true rfl) 0 rfl rfl [0, 3] (by decide) rfl (fun u => Eq.trans (b := [rM, rGi]) rfl rfl) (fun u => rfl) (fun v u hp => ?_)
                                obtain rfl := hp
                                show RW X 0 0 272 [(0, .ref rM), (2, .int (nI i))] [.int (nI (fil N g2))] [(rM, .inr (12, [.int (nI tn), .int (nI n), .int (nI (n / 2)), .int (nI 2), .int (nI sy), .ref rTh, .int (nI ez), .int la, .int ma, .long x1, .ref rTe, .int (bz md), .ref rPu, .ref rWh, .ref rGi, .ref rDr, .ref rTr, .ref rKn, .ref rRo, .int (nI k), .int (nI sz), .ref rTx])), (rTh, .inl (X.1.2.1, 36, .inl (nO th))), (rTe, .inl (X.1.2.1, 7, .inl (nO (te4 te ((drawW n N 200 x (te 1)).2.2.1) (te 2 + i) p1)))), (rGi, .inl (X.1.2.1, 36, .inl (eb g2))), (rDr, .inl (X.1.2.1, 36, .inl (eb d9))), (rTr, .inl (X.1.2.1, 36, .inl (eb t1))), (rKn, .inl (X.1.2.1, 36, .inl (eb kn))), (rRo, .inl (X.1.2.1, 36, .inl (nO r2)))]
                                have hfl := fil_le N gm
                                refine r_top (y := nI (fil N gm)) (congrArg nI (fil_ext hag)) ?_
                                refine r_istore_n C dX11_isGood_272 rfl (by decide) [1, 0] (lv' := [(0, .ref rM), (2, .int (nI (fil N gm)))]) rfl ?_
                                refine r_aload_n C dX11_isGood_273 0 rfl rfl ?_
                                refine r_callV0 (n := 0) (ws' := fun (u : (Nat → Option Nat)) => [(rM, .inr (12, [.int (nI tn), .int (nI n), .int (nI (n / 2)), .int (nI 2), .int (nI sy), .ref rTh, .int (nI ez), .int la, .int ma, .long x1, .ref rTe, .int (bz md), .ref rPu, .ref rWh, .ref rGi, .ref rDr, .ref rTr, .ref rKn, .ref rRo, .int (nI k), .int (nI sz), .ref rTx])), (rTh, .inl (X.1.2.1, 36, .inl (nO th))), (rTe, .inl (X.1.2.1, 7, .inl (nO (te4 te ((drawW n N 200 x (te 1)).2.2.1) (te 2 + i) p1)))), (rGi, .inl (X.1.2.1, 36, .inl (eb g2))), (rDr, .inl (X.1.2.1, 36, .inl (eb d9))), (rTr, .inl (X.1.2.1, 36, .inl (eb t1))), (rKn, .inl (X.1.2.1, 36, .inl (eb u))), (rRo, .inl (X.1.2.1, 36, .inl (nO r2)))]) C dX11_isGood_274 (c_X11_countLeft (g := X.1) (l := X.2.2.1) (rM := rM) (rTh := rTh) (rTe := rTe) (rPu := rPu) (rWh := rWh) (rGi := rGi) (rDr := rDr) (rTr := rTr) (rKn := rKn) (rRo := rRo) (rTx := rTx) (tn := tn) (n := n) (N := N) (sy := sy) (ez := ez) (la := la) (ma := ma) (x := x1) (md := md) (rws := k) (sz := sz) (A := asA d9) (gi := g2) (kn := kn) (hn := (by first | assumption | omega)) (hA := ((asA_ok hdw.1 hdw.2).1)) (hsub := (fun c v hc e => ofW_sub hof hdw.1 hdw.2 c v hc (by rw [← hag c hc]; exact e)))) gX11_isGood_X11_countLeft rfl (by decide +kernel) rfl ⟨Nat.le_of_ble_eq_true rfl, Nat.le_of_ble_eq_true rfl⟩ ⟨rfl, rfl⟩ ⟨Nat.zero_le _, Nat.zero_le _⟩ (rest := []) rfl (Nat.le_of_ble_eq_true rfl) 0 rfl rfl [0, 3, 6] (by decide) rfl (fun u => Eq.trans (b := [rM, rGi, rKn]) rfl rfl) (fun u => rfl) (fun v u hp => ?_)
                                obtain ⟨k5, rfl⟩ : ∃ z, z = u := ⟨_, rfl⟩
                                obtain rfl := hp
                                show RW X 0 0 277 [(0, .ref rM), (2, .int (nI (fil N gm)))] [.int (nI (leftN n N (asA d9) g2))] [(rM, .inr (12, [.int (nI tn), .int (nI n), .int (nI (n / 2)), .int (nI 2), .int (nI sy), .ref rTh, .int (nI ez), .int la, .int ma, .long x1, .ref rTe, .int (bz md), .ref rPu, .ref rWh, .ref rGi, .ref rDr, .ref rTr, .ref rKn, .ref rRo, .int (nI k), .int (nI sz), .ref rTx])), (rTh, .inl (X.1.2.1, 36, .inl (nO th))), (rTe, .inl (X.1.2.1, 7, .inl (nO (te4 te ((drawW n N 200 x (te 1)).2.2.1) (te 2 + i) p1)))), (rGi, .inl (X.1.2.1, 36, .inl (eb g2))), (rDr, .inl (X.1.2.1, 36, .inl (eb d9))), (rTr, .inl (X.1.2.1, 36, .inl (eb t1))), (rKn, .inl (X.1.2.1, 36, .inl (eb k5))), (rRo, .inl (X.1.2.1, 36, .inl (nO r2)))]
                                have hll : leftN n N (asA d9) gm ≤ N := cn_le N
                                refine r_top (y := nI (leftN n N (asA d9) gm)) (congrArg nI (left_ext hag)) ?_
                                refine r_if_ne (tgt := 284) C dX11_isGood_277 (by decide) (fun h277 => ?_) (fun h277 => ?_)
                                · have h277 : ¬ ((leftN n N (asA d9) gm) = 0) := fun e9 => h277 ((nI_eq (b := 0) (by omega) (by omega)).mpr e9)
                                  refine r_iconst C dX11_isGood_284 (v := nI 0) (by decide) ?_
                                  refine r_top (y := bz (leftN n N (asA d9) gm = 0)) (bz_f h277).symm ?_
                                  refine r_istore_n C dX11_isGood_285 rfl (by decide) [1, 2, 0] (lv' := [(0, .ref rM), (2, .int (nI (fil N gm))), (3, .int (bz (leftN n N (asA d9) gm = 0)))]) rfl ?_
                                  refine r_iload_n C dX11_isGood_286 1 rfl rfl ?_
                                  refine r_aload_n C dX11_isGood_287 0 rfl rfl ?_
                                  refine r_get C dX11_isGood_288 iX11_isGood_X11 7 fX11_isGood_75 0 rfl rfl (by decide) rfl ?_
                                  refine r_icmp_lt (tgt := 329) C dX11_isGood_291 (by decide) (fun h291 => ?_) (fun h291 => ?_)
                                  · refine r_iconst C dX11_isGood_329 (v := nI 0) (by decide) ?_
                                    have hT := tryF_t (ez := ez) (la := la) (ma := ma) (tk := te 2) (pb := te 3) h4 hW.symm htr (r := r1) (by rw [hkL]; exact hr1) (g1 := gm) (p1 := p1) (by rw [hkL, hF0]; show goF n N (lfS n sy) r2 k 0 (emF N th (lfS n sy) d9) (te 3) = _; rw [hgo, show k - i = 0 by omega]; rfl)
                                    rw [hkL, hF0] at hT
                                    rw [hT] at hret
                                    have hik : te 2 + i = te 2 + k := by omega
                                    rw [hik]
                                    refine r_top (y := bz (metP ez la ma (fil N gm) (leftN n N (asA d9) gm = 0))) ((bz_f (fun w => absurd w.1 (Int32.not_le.mpr h291))).symm) ?_
                                    exact hret _ _ _ (g2, d9, t1, k5, r2, k) ⟨rfl, fun _ => ⟨rfl, hag⟩, hv2, hvt1⟩ (Or.inr ⟨_, rfl, dX11_isGood_330, Or.inr ⟨rfl, bz_01 _⟩⟩)
                                  · refine r_iload_n C dX11_isGood_294 1 rfl rfl ?_
                                    refine r_aload_n C dX11_isGood_295 0 rfl rfl ?_
                                    refine r_get C dX11_isGood_296 iX11_isGood_X11 8 fX11_isGood_14 0 rfl rfl (by decide) rfl ?_
                                    refine r_icmp_gt (tgt := 329) C dX11_isGood_299 (by decide) (fun h299 => ?_) (fun h299 => ?_)
                                    · refine r_iconst C dX11_isGood_329 (v := nI 0) (by decide) ?_
                                      have hT := tryF_t (ez := ez) (la := la) (ma := ma) (tk := te 2) (pb := te 3) h4 hW.symm htr (r := r1) (by rw [hkL]; exact hr1) (g1 := gm) (p1 := p1) (by rw [hkL, hF0]; show goF n N (lfS n sy) r2 k 0 (emF N th (lfS n sy) d9) (te 3) = _; rw [hgo, show k - i = 0 by omega]; rfl)
                                      rw [hkL, hF0] at hT
                                      rw [hT] at hret
                                      have hik : te 2 + i = te 2 + k := by omega
                                      rw [hik]
                                      refine r_top (y := bz (metP ez la ma (fil N gm) (leftN n N (asA d9) gm = 0))) ((bz_f (fun w => absurd w.2.1 (Int32.not_le.mpr h299))).symm) ?_
                                      exact hret _ _ _ (g2, d9, t1, k5, r2, k) ⟨rfl, fun _ => ⟨rfl, hag⟩, hv2, hvt1⟩ (Or.inr ⟨_, rfl, dX11_isGood_330, Or.inr ⟨rfl, bz_01 _⟩⟩)
                                    · refine r_aload_n C dX11_isGood_302 0 rfl rfl ?_
                                      refine r_get C dX11_isGood_303 iX11_isGood_X11 6 fX11_isGood_72 0 rfl rfl (by decide) rfl ?_
                                      refine r_if_eq (tgt := 325) C dX11_isGood_306 (by decide) (fun h306 => ?_) (fun h306 => ?_)
                                      · have h306 : ez = 0 := (nI_eq (b := 0) (by omega) (by omega)).mp h306
                                        refine r_iconst C dX11_isGood_325 (v := nI 1) (by decide) ?_
                                        refine r_goto (tgt := 330) C dX11_isGood_326 (by decide) ?_
                                        have hT := tryF_t (ez := ez) (la := la) (ma := ma) (tk := te 2) (pb := te 3) h4 hW.symm htr (r := r1) (by rw [hkL]; exact hr1) (g1 := gm) (p1 := p1) (by rw [hkL, hF0]; show goF n N (lfS n sy) r2 k 0 (emF N th (lfS n sy) d9) (te 3) = _; rw [hgo, show k - i = 0 by omega]; rfl)
                                        rw [hkL, hF0] at hT
                                        rw [hT] at hret
                                        have hik : te 2 + i = te 2 + k := by omega
                                        rw [hik]
                                        refine r_top (y := bz (metP ez la ma (fil N gm) (leftN n N (asA d9) gm = 0))) ((bz_t ⟨Int32.not_lt.mp h291, Int32.not_lt.mp h299, fun e => by omega, fun e => by omega⟩).symm) ?_
                                        exact hret _ _ _ (g2, d9, t1, k5, r2, k) ⟨rfl, fun _ => ⟨rfl, hag⟩, hv2, hvt1⟩ (Or.inr ⟨_, rfl, dX11_isGood_330, Or.inr ⟨rfl, bz_01 _⟩⟩)
                                      · have h306 : ¬ (ez = 0) := fun e9 => h306 ((nI_eq (b := 0) (by omega) (by omega)).mpr e9)
                                        refine r_aload_n C dX11_isGood_309 0 rfl rfl ?_
                                        refine r_get C dX11_isGood_310 iX11_isGood_X11 6 fX11_isGood_72 0 rfl rfl (by decide) rfl ?_
                                        refine r_iload_n C dX11_isGood_313 2 rfl rfl ?_
                                        refine r_if_eq (tgt := 321) C dX11_isGood_314 (by decide) (fun h314 => ?_) (fun h314 => ?_)
                                        · have h314 : ¬ (leftN n N (asA d9) gm = 0) := bz_0.mp h314
                                          refine r_iconst C dX11_isGood_321 (v := nI 2) (by decide) ?_
                                          refine r_icmp_ne (tgt := 329) C dX11_isGood_322 (by decide) (fun h322 => ?_) (fun h322 => ?_)
                                          · have h322 : ¬ (ez = 2) := fun e9 => h322 ((nI_eq (by omega) (by omega)).mpr e9)
                                            refine r_iconst C dX11_isGood_329 (v := nI 0) (by decide) ?_
                                            have hT := tryF_t (ez := ez) (la := la) (ma := ma) (tk := te 2) (pb := te 3) h4 hW.symm htr (r := r1) (by rw [hkL]; exact hr1) (g1 := gm) (p1 := p1) (by rw [hkL, hF0]; show goF n N (lfS n sy) r2 k 0 (emF N th (lfS n sy) d9) (te 3) = _; rw [hgo, show k - i = 0 by omega]; rfl)
                                            rw [hkL, hF0] at hT
                                            rw [hT] at hret
                                            have hik : te 2 + i = te 2 + k := by omega
                                            rw [hik]
                                            refine r_top (y := bz (metP ez la ma (fil N gm) (leftN n N (asA d9) gm = 0))) ((bz_f (fun w => h314 (w.2.2.1 (by omega)))).symm) ?_
                                            exact hret _ _ _ (g2, d9, t1, k5, r2, k) ⟨rfl, fun _ => ⟨rfl, hag⟩, hv2, hvt1⟩ (Or.inr ⟨_, rfl, dX11_isGood_330, Or.inr ⟨rfl, bz_01 _⟩⟩)
                                          · have h322 : ez = 2 := (nI_eq (by omega) (by omega)).mp h322
                                            refine r_iconst C dX11_isGood_325 (v := nI 1) (by decide) ?_
                                            refine r_goto (tgt := 330) C dX11_isGood_326 (by decide) ?_
                                            have hT := tryF_t (ez := ez) (la := la) (ma := ma) (tk := te 2) (pb := te 3) h4 hW.symm htr (r := r1) (by rw [hkL]; exact hr1) (g1 := gm) (p1 := p1) (by rw [hkL, hF0]; show goF n N (lfS n sy) r2 k 0 (emF N th (lfS n sy) d9) (te 3) = _; rw [hgo, show k - i = 0 by omega]; rfl)
                                            rw [hkL, hF0] at hT
                                            rw [hT] at hret
                                            have hik : te 2 + i = te 2 + k := by omega
                                            rw [hik]
                                            refine r_top (y := bz (metP ez la ma (fil N gm) (leftN n N (asA d9) gm = 0))) ((bz_t ⟨Int32.not_lt.mp h291, Int32.not_lt.mp h299, fun e => by omega, fun _ => h314⟩).symm) ?_
                                            exact hret _ _ _ (g2, d9, t1, k5, r2, k) ⟨rfl, fun _ => ⟨rfl, hag⟩, hv2, hvt1⟩ (Or.inr ⟨_, rfl, dX11_isGood_330, Or.inr ⟨rfl, bz_01 _⟩⟩)
                                        · have h314 : leftN n N (asA d9) gm = 0 := bz_n0.mp h314
                                          refine r_iconst C dX11_isGood_317 (v := nI 1) (by decide) ?_
                                          refine r_goto (tgt := 322) C dX11_isGood_318 (by decide) ?_
                                          refine r_icmp_ne (tgt := 329) C dX11_isGood_322 (by decide) (fun h322 => ?_) (fun h322 => ?_)
                                          · have h322 : ¬ (ez = 1) := fun e9 => h322 ((nI_eq (by omega) (by omega)).mpr e9)
                                            refine r_iconst C dX11_isGood_329 (v := nI 0) (by decide) ?_
                                            have hT := tryF_t (ez := ez) (la := la) (ma := ma) (tk := te 2) (pb := te 3) h4 hW.symm htr (r := r1) (by rw [hkL]; exact hr1) (g1 := gm) (p1 := p1) (by rw [hkL, hF0]; show goF n N (lfS n sy) r2 k 0 (emF N th (lfS n sy) d9) (te 3) = _; rw [hgo, show k - i = 0 by omega]; rfl)
                                            rw [hkL, hF0] at hT
                                            rw [hT] at hret
                                            have hik : te 2 + i = te 2 + k := by omega
                                            rw [hik]
                                            refine r_top (y := bz (metP ez la ma (fil N gm) (leftN n N (asA d9) gm = 0))) ((bz_f (fun w => w.2.2.2 (by omega) h314)).symm) ?_
                                            exact hret _ _ _ (g2, d9, t1, k5, r2, k) ⟨rfl, fun _ => ⟨rfl, hag⟩, hv2, hvt1⟩ (Or.inr ⟨_, rfl, dX11_isGood_330, Or.inr ⟨rfl, bz_01 _⟩⟩)
                                          · have h322 : ez = 1 := (nI_eq (by omega) (by omega)).mp h322
                                            refine r_iconst C dX11_isGood_325 (v := nI 1) (by decide) ?_
                                            refine r_goto (tgt := 330) C dX11_isGood_326 (by decide) ?_
                                            have hT := tryF_t (ez := ez) (la := la) (ma := ma) (tk := te 2) (pb := te 3) h4 hW.symm htr (r := r1) (by rw [hkL]; exact hr1) (g1 := gm) (p1 := p1) (by rw [hkL, hF0]; show goF n N (lfS n sy) r2 k 0 (emF N th (lfS n sy) d9) (te 3) = _; rw [hgo, show k - i = 0 by omega]; rfl)
                                            rw [hkL, hF0] at hT
                                            rw [hT] at hret
                                            have hik : te 2 + i = te 2 + k := by omega
                                            rw [hik]
                                            refine r_top (y := bz (metP ez la ma (fil N gm) (leftN n N (asA d9) gm = 0))) ((bz_t ⟨Int32.not_lt.mp h291, Int32.not_lt.mp h299, fun _ => h314, fun e => by omega⟩).symm) ?_
                                            exact hret _ _ _ (g2, d9, t1, k5, r2, k) ⟨rfl, fun _ => ⟨rfl, hag⟩, hv2, hvt1⟩ (Or.inr ⟨_, rfl, dX11_isGood_330, Or.inr ⟨rfl, bz_01 _⟩⟩)
                                · have h277 : (leftN n N (asA d9) gm) = 0 := (nI_eq (b := 0) (by omega) (by omega)).mp h277
                                  refine r_iconst C dX11_isGood_280 (v := nI 1) (by decide) ?_
                                  refine r_goto (tgt := 285) C dX11_isGood_281 (by decide) ?_
                                  refine r_top (y := bz (leftN n N (asA d9) gm = 0)) (bz_t h277).symm ?_
                                  refine r_istore_n C dX11_isGood_285 rfl (by decide) [1, 2, 0] (lv' := [(0, .ref rM), (2, .int (nI (fil N gm))), (3, .int (bz (leftN n N (asA d9) gm = 0)))]) rfl ?_
                                  refine r_iload_n C dX11_isGood_286 1 rfl rfl ?_
                                  refine r_aload_n C dX11_isGood_287 0 rfl rfl ?_
                                  refine r_get C dX11_isGood_288 iX11_isGood_X11 7 fX11_isGood_75 0 rfl rfl (by decide) rfl ?_
                                  refine r_icmp_lt (tgt := 329) C dX11_isGood_291 (by decide) (fun h291 => ?_) (fun h291 => ?_)
                                  · refine r_iconst C dX11_isGood_329 (v := nI 0) (by decide) ?_
                                    have hT := tryF_t (ez := ez) (la := la) (ma := ma) (tk := te 2) (pb := te 3) h4 hW.symm htr (r := r1) (by rw [hkL]; exact hr1) (g1 := gm) (p1 := p1) (by rw [hkL, hF0]; show goF n N (lfS n sy) r2 k 0 (emF N th (lfS n sy) d9) (te 3) = _; rw [hgo, show k - i = 0 by omega]; rfl)
                                    rw [hkL, hF0] at hT
                                    rw [hT] at hret
                                    have hik : te 2 + i = te 2 + k := by omega
                                    rw [hik]
                                    refine r_top (y := bz (metP ez la ma (fil N gm) (leftN n N (asA d9) gm = 0))) ((bz_f (fun w => absurd w.1 (Int32.not_le.mpr h291))).symm) ?_
                                    exact hret _ _ _ (g2, d9, t1, k5, r2, k) ⟨rfl, fun _ => ⟨rfl, hag⟩, hv2, hvt1⟩ (Or.inr ⟨_, rfl, dX11_isGood_330, Or.inr ⟨rfl, bz_01 _⟩⟩)
                                  · refine r_iload_n C dX11_isGood_294 1 rfl rfl ?_
                                    refine r_aload_n C dX11_isGood_295 0 rfl rfl ?_
                                    refine r_get C dX11_isGood_296 iX11_isGood_X11 8 fX11_isGood_14 0 rfl rfl (by decide) rfl ?_
                                    refine r_icmp_gt (tgt := 329) C dX11_isGood_299 (by decide) (fun h299 => ?_) (fun h299 => ?_)
                                    · refine r_iconst C dX11_isGood_329 (v := nI 0) (by decide) ?_
                                      have hT := tryF_t (ez := ez) (la := la) (ma := ma) (tk := te 2) (pb := te 3) h4 hW.symm htr (r := r1) (by rw [hkL]; exact hr1) (g1 := gm) (p1 := p1) (by rw [hkL, hF0]; show goF n N (lfS n sy) r2 k 0 (emF N th (lfS n sy) d9) (te 3) = _; rw [hgo, show k - i = 0 by omega]; rfl)
                                      rw [hkL, hF0] at hT
                                      rw [hT] at hret
                                      have hik : te 2 + i = te 2 + k := by omega
                                      rw [hik]
                                      refine r_top (y := bz (metP ez la ma (fil N gm) (leftN n N (asA d9) gm = 0))) ((bz_f (fun w => absurd w.2.1 (Int32.not_le.mpr h299))).symm) ?_
                                      exact hret _ _ _ (g2, d9, t1, k5, r2, k) ⟨rfl, fun _ => ⟨rfl, hag⟩, hv2, hvt1⟩ (Or.inr ⟨_, rfl, dX11_isGood_330, Or.inr ⟨rfl, bz_01 _⟩⟩)
                                    · refine r_aload_n C dX11_isGood_302 0 rfl rfl ?_
                                      refine r_get C dX11_isGood_303 iX11_isGood_X11 6 fX11_isGood_72 0 rfl rfl (by decide) rfl ?_
                                      refine r_if_eq (tgt := 325) C dX11_isGood_306 (by decide) (fun h306 => ?_) (fun h306 => ?_)
                                      · have h306 : ez = 0 := (nI_eq (b := 0) (by omega) (by omega)).mp h306
                                        refine r_iconst C dX11_isGood_325 (v := nI 1) (by decide) ?_
                                        refine r_goto (tgt := 330) C dX11_isGood_326 (by decide) ?_
                                        have hT := tryF_t (ez := ez) (la := la) (ma := ma) (tk := te 2) (pb := te 3) h4 hW.symm htr (r := r1) (by rw [hkL]; exact hr1) (g1 := gm) (p1 := p1) (by rw [hkL, hF0]; show goF n N (lfS n sy) r2 k 0 (emF N th (lfS n sy) d9) (te 3) = _; rw [hgo, show k - i = 0 by omega]; rfl)
                                        rw [hkL, hF0] at hT
                                        rw [hT] at hret
                                        have hik : te 2 + i = te 2 + k := by omega
                                        rw [hik]
                                        refine r_top (y := bz (metP ez la ma (fil N gm) (leftN n N (asA d9) gm = 0))) ((bz_t ⟨Int32.not_lt.mp h291, Int32.not_lt.mp h299, fun e => by omega, fun e => by omega⟩).symm) ?_
                                        exact hret _ _ _ (g2, d9, t1, k5, r2, k) ⟨rfl, fun _ => ⟨rfl, hag⟩, hv2, hvt1⟩ (Or.inr ⟨_, rfl, dX11_isGood_330, Or.inr ⟨rfl, bz_01 _⟩⟩)
                                      · have h306 : ¬ (ez = 0) := fun e9 => h306 ((nI_eq (b := 0) (by omega) (by omega)).mpr e9)
                                        refine r_aload_n C dX11_isGood_309 0 rfl rfl ?_
                                        refine r_get C dX11_isGood_310 iX11_isGood_X11 6 fX11_isGood_72 0 rfl rfl (by decide) rfl ?_
                                        refine r_iload_n C dX11_isGood_313 2 rfl rfl ?_
                                        refine r_if_eq (tgt := 321) C dX11_isGood_314 (by decide) (fun h314 => ?_) (fun h314 => ?_)
                                        · have h314 : ¬ (leftN n N (asA d9) gm = 0) := bz_0.mp h314
                                          refine r_iconst C dX11_isGood_321 (v := nI 2) (by decide) ?_
                                          refine r_icmp_ne (tgt := 329) C dX11_isGood_322 (by decide) (fun h322 => ?_) (fun h322 => ?_)
                                          · have h322 : ¬ (ez = 2) := fun e9 => h322 ((nI_eq (by omega) (by omega)).mpr e9)
                                            refine r_iconst C dX11_isGood_329 (v := nI 0) (by decide) ?_
                                            have hT := tryF_t (ez := ez) (la := la) (ma := ma) (tk := te 2) (pb := te 3) h4 hW.symm htr (r := r1) (by rw [hkL]; exact hr1) (g1 := gm) (p1 := p1) (by rw [hkL, hF0]; show goF n N (lfS n sy) r2 k 0 (emF N th (lfS n sy) d9) (te 3) = _; rw [hgo, show k - i = 0 by omega]; rfl)
                                            rw [hkL, hF0] at hT
                                            rw [hT] at hret
                                            have hik : te 2 + i = te 2 + k := by omega
                                            rw [hik]
                                            refine r_top (y := bz (metP ez la ma (fil N gm) (leftN n N (asA d9) gm = 0))) ((bz_f (fun w => h314 (w.2.2.1 (by omega)))).symm) ?_
                                            exact hret _ _ _ (g2, d9, t1, k5, r2, k) ⟨rfl, fun _ => ⟨rfl, hag⟩, hv2, hvt1⟩ (Or.inr ⟨_, rfl, dX11_isGood_330, Or.inr ⟨rfl, bz_01 _⟩⟩)
                                          · have h322 : ez = 2 := (nI_eq (by omega) (by omega)).mp h322
                                            refine r_iconst C dX11_isGood_325 (v := nI 1) (by decide) ?_
                                            refine r_goto (tgt := 330) C dX11_isGood_326 (by decide) ?_
                                            have hT := tryF_t (ez := ez) (la := la) (ma := ma) (tk := te 2) (pb := te 3) h4 hW.symm htr (r := r1) (by rw [hkL]; exact hr1) (g1 := gm) (p1 := p1) (by rw [hkL, hF0]; show goF n N (lfS n sy) r2 k 0 (emF N th (lfS n sy) d9) (te 3) = _; rw [hgo, show k - i = 0 by omega]; rfl)
                                            rw [hkL, hF0] at hT
                                            rw [hT] at hret
                                            have hik : te 2 + i = te 2 + k := by omega
                                            rw [hik]
                                            refine r_top (y := bz (metP ez la ma (fil N gm) (leftN n N (asA d9) gm = 0))) ((bz_t ⟨Int32.not_lt.mp h291, Int32.not_lt.mp h299, fun e => by omega, fun _ => h314⟩).symm) ?_
                                            exact hret _ _ _ (g2, d9, t1, k5, r2, k) ⟨rfl, fun _ => ⟨rfl, hag⟩, hv2, hvt1⟩ (Or.inr ⟨_, rfl, dX11_isGood_330, Or.inr ⟨rfl, bz_01 _⟩⟩)
                                        · have h314 : leftN n N (asA d9) gm = 0 := bz_n0.mp h314
                                          refine r_iconst C dX11_isGood_317 (v := nI 1) (by decide) ?_
                                          refine r_goto (tgt := 322) C dX11_isGood_318 (by decide) ?_
                                          refine r_icmp_ne (tgt := 329) C dX11_isGood_322 (by decide) (fun h322 => ?_) (fun h322 => ?_)
                                          · have h322 : ¬ (ez = 1) := fun e9 => h322 ((nI_eq (by omega) (by omega)).mpr e9)
                                            refine r_iconst C dX11_isGood_329 (v := nI 0) (by decide) ?_
                                            have hT := tryF_t (ez := ez) (la := la) (ma := ma) (tk := te 2) (pb := te 3) h4 hW.symm htr (r := r1) (by rw [hkL]; exact hr1) (g1 := gm) (p1 := p1) (by rw [hkL, hF0]; show goF n N (lfS n sy) r2 k 0 (emF N th (lfS n sy) d9) (te 3) = _; rw [hgo, show k - i = 0 by omega]; rfl)
                                            rw [hkL, hF0] at hT
                                            rw [hT] at hret
                                            have hik : te 2 + i = te 2 + k := by omega
                                            rw [hik]
                                            refine r_top (y := bz (metP ez la ma (fil N gm) (leftN n N (asA d9) gm = 0))) ((bz_f (fun w => w.2.2.2 (by omega) h314)).symm) ?_
                                            exact hret _ _ _ (g2, d9, t1, k5, r2, k) ⟨rfl, fun _ => ⟨rfl, hag⟩, hv2, hvt1⟩ (Or.inr ⟨_, rfl, dX11_isGood_330, Or.inr ⟨rfl, bz_01 _⟩⟩)
                                          · have h322 : ez = 1 := (nI_eq (by omega) (by omega)).mp h322
                                            refine r_iconst C dX11_isGood_325 (v := nI 1) (by decide) ?_
                                            refine r_goto (tgt := 330) C dX11_isGood_326 (by decide) ?_
                                            have hT := tryF_t (ez := ez) (la := la) (ma := ma) (tk := te 2) (pb := te 3) h4 hW.symm htr (r := r1) (by rw [hkL]; exact hr1) (g1 := gm) (p1 := p1) (by rw [hkL, hF0]; show goF n N (lfS n sy) r2 k 0 (emF N th (lfS n sy) d9) (te 3) = _; rw [hgo, show k - i = 0 by omega]; rfl)
                                            rw [hkL, hF0] at hT
                                            rw [hT] at hret
                                            have hik : te 2 + i = te 2 + k := by omega
                                            rw [hik]
                                            refine r_top (y := bz (metP ez la ma (fil N gm) (leftN n N (asA d9) gm = 0))) ((bz_t ⟨Int32.not_lt.mp h291, Int32.not_lt.mp h299, fun _ => h314, fun e => by omega⟩).symm) ?_
                                            exact hret _ _ _ (g2, d9, t1, k5, r2, k) ⟨rfl, fun _ => ⟨rfl, hag⟩, hv2, hvt1⟩ (Or.inr ⟨_, rfl, dX11_isGood_330, Or.inr ⟨rfl, bz_01 _⟩⟩)
                              · have h207 : ¬ (k ≤ i) := fun e9 => h207 ((nI_leI (by omega) (by omega)).mpr e9)
                                refine r_aload_n C dX11_isGood_210 0 rfl rfl ?_
                                refine r_aload_n C dX11_isGood_211 0 rfl rfl ?_
                                refine r_get C dX11_isGood_212 iX11_isGood_X11 18 fX11_isGood_39 0 rfl rfl (by decide) rfl ?_
                                refine r_iload_n C dX11_isGood_215 1 rfl rfl ?_
                                refine r_iald C dX11_isGood_216 7 rfl (by omega) (by omega) ?_
                                show RW X 0 0 217 [(0, .ref rM), (2, .int (nI i))] [.int (nI (r2 i)), .ref rM] [(rM, .inr (12, [.int (nI tn), .int (nI n), .int (nI (n / 2)), .int (nI 2), .int (nI sy), .ref rTh, .int (nI ez), .int la, .int ma, .long x1, .ref rTe, .int (bz md), .ref rPu, .ref rWh, .ref rGi, .ref rDr, .ref rTr, .ref rKn, .ref rRo, .int (nI k), .int (nI sz), .ref rTx])), (rTh, .inl (X.1.2.1, 36, .inl (nO th))), (rTe, .inl (X.1.2.1, 7, .inl (nO (te4 te ((drawW n N 200 x (te 1)).2.2.1) (te 2 + i) p1)))), (rGi, .inl (X.1.2.1, 36, .inl (eb g2))), (rDr, .inl (X.1.2.1, 36, .inl (eb d9))), (rTr, .inl (X.1.2.1, 36, .inl (eb t1))), (rKn, .inl (X.1.2.1, 36, .inl (eb kn))), (rRo, .inl (X.1.2.1, 36, .inl (nO r2)))]
                                refine r_callV0 (n := 1) (ws' := fun (u : (Nat → Option Nat)) => [(rM, .inr (12, [.int (nI tn), .int (nI n), .int (nI (n / 2)), .int (nI 2), .int (nI sy), .ref rTh, .int (nI ez), .int la, .int ma, .long x1, .ref rTe, .int (bz md), .ref rPu, .ref rWh, .ref rGi, .ref rDr, .ref rTr, .ref rKn, .ref rRo, .int (nI k), .int (nI sz), .ref rTx])), (rTh, .inl (X.1.2.1, 36, .inl (nO th))), (rTe, .inl (X.1.2.1, 7, .inl (nO (te4 te ((drawW n N 200 x (te 1)).2.2.1) (te 2 + i) p1)))), (rGi, .inl (X.1.2.1, 36, .inl (eb u))), (rDr, .inl (X.1.2.1, 36, .inl (eb d9))), (rTr, .inl (X.1.2.1, 36, .inl (eb t1))), (rKn, .inl (X.1.2.1, 36, .inl (eb kn))), (rRo, .inl (X.1.2.1, 36, .inl (nO r2)))]) C dX11_isGood_217 (c_X11_takeOut (g := X.1) (l := X.2.2.1) (rM := rM) (rTh := rTh) (rTe := rTe) (rPu := rPu) (rWh := rWh) (rGi := rGi) (rDr := rDr) (rTr := rTr) (rKn := rKn) (rRo := rRo) (rTx := rTx) (tn := tn) (n := n) (N := N) (sy := sy) (ez := ez) (la := la) (ma := ma) (x := x1) (md := md) (rws := k) (sz := sz) (gi := g2) (ls := r2 i) (hn := (by first | assumption | omega)) (hsy := (by first | assumption | omega)) (hls := (hrow i (by omega)))) gX11_isGood_X11_takeOut rfl (by decide +kernel) rfl ⟨Nat.le_of_ble_eq_true rfl, Nat.le_of_ble_eq_true rfl⟩ ⟨rfl, rfl⟩ ⟨Nat.zero_le _, Nat.zero_le _⟩ (rest := []) rfl (Nat.le_of_ble_eq_true rfl) 0 rfl rfl [0, 3] (by decide) rfl (fun u => Eq.trans (b := [rM, rGi]) rfl rfl) (fun u => rfl) (fun v u hp => ?_)
                                obtain ⟨g4, rfl⟩ : ∃ z, z = u := ⟨_, rfl⟩
                                obtain ⟨rfl, p217_0⟩ := hp
                                show RW X 0 0 220 [(0, .ref rM), (2, .int (nI i))] [] [(rM, .inr (12, [.int (nI tn), .int (nI n), .int (nI (n / 2)), .int (nI 2), .int (nI sy), .ref rTh, .int (nI ez), .int la, .int ma, .long x1, .ref rTe, .int (bz md), .ref rPu, .ref rWh, .ref rGi, .ref rDr, .ref rTr, .ref rKn, .ref rRo, .int (nI k), .int (nI sz), .ref rTx])), (rTh, .inl (X.1.2.1, 36, .inl (nO th))), (rTe, .inl (X.1.2.1, 7, .inl (nO (te4 te ((drawW n N 200 x (te 1)).2.2.1) (te 2 + i) p1)))), (rGi, .inl (X.1.2.1, 36, .inl (eb g4))), (rDr, .inl (X.1.2.1, 36, .inl (eb d9))), (rTr, .inl (X.1.2.1, 36, .inl (eb t1))), (rKn, .inl (X.1.2.1, 36, .inl (eb kn))), (rRo, .inl (X.1.2.1, 36, .inl (nO r2)))]
                                have hv4 : ∀ d v, g4 d = some v → v < n := fun d v e => by
                                  by_cases q : d < N
                                  · rw [p217_0.1 d q] at e; exact hv2 d v (wo_of e)
                                  · rw [p217_0.2 d (by omega)] at e; exact hv2 d v e
                                have hag4 : ∀ d, d < N → g4 d = woF (lfS n sy) (r2 i) gm d := fun d q => by rw [p217_0.1 d q]; exact wo_ext (hag d q)
                                have hce4 : cntS n N g4 = cntS n N (woF (lfS n sy) (r2 i) gm) := cntS_ext hag4
                                refine r_aload_n C dX11_isGood_220 0 rfl rfl ?_
                                refine r_get C dX11_isGood_221 iX11_isGood_X11 10 fX11_isGood_18 0 rfl rfl (by decide) rfl ?_
                                refine r_iconst C dX11_isGood_224 (v := nI 2) (by decide) ?_
                                refine r_dup2 C dX11_isGood_225 rfl rfl ?_
                                refine r_iald C dX11_isGood_226 2 rfl (by omega) (by omega) ?_
                                show RW X 0 0 227 [(0, .ref rM), (2, .int (nI i))] [.int (nI (te4 te ((drawW n N 200 x (te 1)).2.2.1) (te 2 + i) p1 2)), .int (nI 2), .ref rTe] [(rM, .inr (12, [.int (nI tn), .int (nI n), .int (nI (n / 2)), .int (nI 2), .int (nI sy), .ref rTh, .int (nI ez), .int la, .int ma, .long x1, .ref rTe, .int (bz md), .ref rPu, .ref rWh, .ref rGi, .ref rDr, .ref rTr, .ref rKn, .ref rRo, .int (nI k), .int (nI sz), .ref rTx])), (rTh, .inl (X.1.2.1, 36, .inl (nO th))), (rTe, .inl (X.1.2.1, 7, .inl (nO (te4 te ((drawW n N 200 x (te 1)).2.2.1) (te 2 + i) p1)))), (rGi, .inl (X.1.2.1, 36, .inl (eb g4))), (rDr, .inl (X.1.2.1, 36, .inl (eb d9))), (rTr, .inl (X.1.2.1, 36, .inl (eb t1))), (rKn, .inl (X.1.2.1, 36, .inl (eb kn))), (rRo, .inl (X.1.2.1, 36, .inl (nO r2)))]
                                refine r_iconst C dX11_isGood_227 (v := nI 1) (by decide) ?_
                                refine r_iadd C dX11_isGood_228 (v := nI ((te4 te ((drawW n N 200 x (te 1)).2.2.1) (te 2 + i) p1 2) + 1)) (nI_add _ _) ?_
                                refine r_iast C dX11_isGood_229 2 rfl (by omega) (by omega) (ws' := [(rM, .inr (12, [.int (nI tn), .int (nI n), .int (nI (n / 2)), .int (nI 2), .int (nI sy), .ref rTh, .int (nI ez), .int la, .int ma, .long x1, .ref rTe, .int (bz md), .ref rPu, .ref rWh, .ref rGi, .ref rDr, .ref rTr, .ref rKn, .ref rRo, .int (nI k), .int (nI sz), .ref rTx])), (rTh, .inl (X.1.2.1, 36, .inl (nO th))), (rTe, .inl (X.1.2.1, 7, .inl (upd (nO (te4 te ((drawW n N 200 x (te 1)).2.2.1) (te 2 + i) p1)) 2 (nI ((te4 te ((drawW n N 200 x (te 1)).2.2.1) (te 2 + i) p1 2) + 1))))), (rGi, .inl (X.1.2.1, 36, .inl (eb g4))), (rDr, .inl (X.1.2.1, 36, .inl (eb d9))), (rTr, .inl (X.1.2.1, 36, .inl (eb t1))), (rKn, .inl (X.1.2.1, 36, .inl (eb kn))), (rRo, .inl (X.1.2.1, 36, .inl (nO r2)))]) rfl ?_
                                rw [te4_2]
                                show RW X 0 0 230 [(0, .ref rM), (2, .int (nI i))] [] [(rM, .inr (12, [.int (nI tn), .int (nI n), .int (nI (n / 2)), .int (nI 2), .int (nI sy), .ref rTh, .int (nI ez), .int la, .int ma, .long x1, .ref rTe, .int (bz md), .ref rPu, .ref rWh, .ref rGi, .ref rDr, .ref rTr, .ref rKn, .ref rRo, .int (nI k), .int (nI sz), .ref rTx])), (rTh, .inl (X.1.2.1, 36, .inl (nO th))), (rTe, .inl (X.1.2.1, 7, .inl (nO (te4 te ((drawW n N 200 x (te 1)).2.2.1) (te 2 + (i + 1)) p1)))), (rGi, .inl (X.1.2.1, 36, .inl (eb g4))), (rDr, .inl (X.1.2.1, 36, .inl (eb d9))), (rTr, .inl (X.1.2.1, 36, .inl (eb t1))), (rKn, .inl (X.1.2.1, 36, .inl (eb kn))), (rRo, .inl (X.1.2.1, 36, .inl (nO r2)))]
                                refine r_aload_n C dX11_isGood_230 0 rfl rfl ?_
                                refine r_iconst C dX11_isGood_231 (v := nI 2) (by decide) ?_
                                refine r_callV0 (n := 1) (ws' := fun (u : (Nat → Option Nat)) => [(rM, .inr (12, [.int (nI tn), .int (nI n), .int (nI (n / 2)), .int (nI 2), .int (nI sy), .ref rTh, .int (nI ez), .int la, .int ma, .long x1, .ref rTe, .int (bz md), .ref rPu, .ref rWh, .ref rGi, .ref rDr, .ref rTr, .ref rKn, .ref rRo, .int (nI k), .int (nI sz), .ref rTx])), (rTh, .inl (X.1.2.1, 36, .inl (nO th))), (rTe, .inl (X.1.2.1, 7, .inl (nO (te4 te ((drawW n N 200 x (te 1)).2.2.1) (te 2 + (i + 1)) p1)))), (rGi, .inl (X.1.2.1, 36, .inl (eb g4))), (rDr, .inl (X.1.2.1, 36, .inl (eb d9))), (rTr, .inl (X.1.2.1, 36, .inl (eb u))), (rKn, .inl (X.1.2.1, 36, .inl (eb kn))), (rRo, .inl (X.1.2.1, 36, .inl (nO r2)))]) C dX11_isGood_232 (c_X11_countUpTo (g := X.1) (l := X.2.2.1) (rM := rM) (rTh := rTh) (rTe := rTe) (rPu := rPu) (rWh := rWh) (rGi := rGi) (rDr := rDr) (rTr := rTr) (rKn := rKn) (rRo := rRo) (rTx := rTx) (tn := tn) (n := n) (N := N) (sy := sy) (ez := ez) (la := la) (ma := ma) (x := x1) (md := md) (rws := k) (sz := sz) (tr0 := t1) (gi := g4) (most := 2) (hn := (by first | assumption | omega)) (hm0 := (by omega)) (hm1 := (by omega)) (hvt0 := hvt1) (hvg := hv4)) gX11_isGood_X11_countUpTo rfl (by decide +kernel) rfl ⟨Nat.le_of_ble_eq_true rfl, Nat.le_of_ble_eq_true rfl⟩ ⟨rfl, rfl⟩ ⟨Nat.zero_le _, Nat.zero_le _⟩ (rest := []) rfl (Nat.le_of_ble_eq_true rfl) 0 rfl rfl [0, 5, 3] (by decide) rfl (fun u => Eq.trans (b := [rM, rTr, rGi]) rfl rfl) (fun u => rfl) (fun v u hp => ?_)
                                obtain ⟨t4, rfl⟩ : ∃ z, z = u := ⟨_, rfl⟩
                                obtain ⟨rfl, p232_0⟩ := hp
                                show RW X 0 0 235 [(0, .ref rM), (2, .int (nI i))] [.int (nI (min 2 (0 + cntS n N g4)))] [(rM, .inr (12, [.int (nI tn), .int (nI n), .int (nI (n / 2)), .int (nI 2), .int (nI sy), .ref rTh, .int (nI ez), .int la, .int ma, .long x1, .ref rTe, .int (bz md), .ref rPu, .ref rWh, .ref rGi, .ref rDr, .ref rTr, .ref rKn, .ref rRo, .int (nI k), .int (nI sz), .ref rTx])), (rTh, .inl (X.1.2.1, 36, .inl (nO th))), (rTe, .inl (X.1.2.1, 7, .inl (nO (te4 te ((drawW n N 200 x (te 1)).2.2.1) (te 2 + (i + 1)) p1)))), (rGi, .inl (X.1.2.1, 36, .inl (eb g4))), (rDr, .inl (X.1.2.1, 36, .inl (eb d9))), (rTr, .inl (X.1.2.1, 36, .inl (eb t4))), (rKn, .inl (X.1.2.1, 36, .inl (eb kn))), (rRo, .inl (X.1.2.1, 36, .inl (nO r2)))]
                                refine r_iconst C dX11_isGood_235 (v := nI 2) (by decide) ?_
                                refine r_icmp_ge (tgt := 242) C dX11_isGood_236 (by decide) (fun h236 => ?_) (fun h236 => ?_)
                                · have h236 : 2 ≤ (min 2 (0 + cntS n N g4)) := (nI_leI (by omega) (by omega)).mp h236
                                  have hso : soP N (r2 i) (lfS n sy) gm := Classical.byContradiction (fun w => absurd h236 (by rw [hce4, cntS_ext (wo_no w)]; omega))
                                  have hc6 : 2 ≤ cntS n N (woF (lfS n sy) (r2 i) gm) := by rw [← hce4]; omega
                                  refine r_aload_n C dX11_isGood_242 0 rfl rfl ?_
                                  refine r_aload_n C dX11_isGood_243 0 rfl rfl ?_
                                  refine r_get C dX11_isGood_244 iX11_isGood_X11 18 fX11_isGood_39 0 rfl rfl (by decide) rfl ?_
                                  refine r_iload_n C dX11_isGood_247 1 rfl rfl ?_
                                  refine r_iald C dX11_isGood_248 7 rfl (by omega) (by omega) ?_
                                  show RW X 0 0 249 [(0, .ref rM), (2, .int (nI i))] [.int (nI (r2 i)), .ref rM] [(rM, .inr (12, [.int (nI tn), .int (nI n), .int (nI (n / 2)), .int (nI 2), .int (nI sy), .ref rTh, .int (nI ez), .int la, .int ma, .long x1, .ref rTe, .int (bz md), .ref rPu, .ref rWh, .ref rGi, .ref rDr, .ref rTr, .ref rKn, .ref rRo, .int (nI k), .int (nI sz), .ref rTx])), (rTh, .inl (X.1.2.1, 36, .inl (nO th))), (rTe, .inl (X.1.2.1, 7, .inl (nO (te4 te ((drawW n N 200 x (te 1)).2.2.1) (te 2 + (i + 1)) p1)))), (rGi, .inl (X.1.2.1, 36, .inl (eb g4))), (rDr, .inl (X.1.2.1, 36, .inl (eb d9))), (rTr, .inl (X.1.2.1, 36, .inl (eb t4))), (rKn, .inl (X.1.2.1, 36, .inl (eb kn))), (rRo, .inl (X.1.2.1, 36, .inl (nO r2)))]
                                  refine r_callV0 (n := 1) (ws' := fun (u : (Nat → Option Nat)) => [(rM, .inr (12, [.int (nI tn), .int (nI n), .int (nI (n / 2)), .int (nI 2), .int (nI sy), .ref rTh, .int (nI ez), .int la, .int ma, .long x1, .ref rTe, .int (bz md), .ref rPu, .ref rWh, .ref rGi, .ref rDr, .ref rTr, .ref rKn, .ref rRo, .int (nI k), .int (nI sz), .ref rTx])), (rTh, .inl (X.1.2.1, 36, .inl (nO th))), (rTe, .inl (X.1.2.1, 7, .inl (nO (te4 te ((drawW n N 200 x (te 1)).2.2.1) (te 2 + (i + 1)) p1)))), (rGi, .inl (X.1.2.1, 36, .inl (eb u))), (rDr, .inl (X.1.2.1, 36, .inl (eb d9))), (rTr, .inl (X.1.2.1, 36, .inl (eb t4))), (rKn, .inl (X.1.2.1, 36, .inl (eb kn))), (rRo, .inl (X.1.2.1, 36, .inl (nO r2)))]) C dX11_isGood_249 (c_X11_putBack (g := X.1) (l := X.2.2.1) (rM := rM) (rTh := rTh) (rTe := rTe) (rPu := rPu) (rWh := rWh) (rGi := rGi) (rDr := rDr) (rTr := rTr) (rKn := rKn) (rRo := rRo) (rTx := rTx) (tn := tn) (n := n) (N := N) (sy := sy) (ez := ez) (la := la) (ma := ma) (x := x1) (md := md) (rws := k) (sz := sz) (gi := g4) (dr := d9) (ls := r2 i) (hn := (by first | assumption | omega)) (hsy := (by first | assumption | omega)) (hls := (hrow i (by omega)))) gX11_isGood_X11_putBack rfl (by decide +kernel) rfl ⟨Nat.le_of_ble_eq_true rfl, Nat.le_of_ble_eq_true rfl⟩ ⟨rfl, rfl⟩ ⟨Nat.zero_le _, Nat.zero_le _⟩ (rest := []) rfl (Nat.le_of_ble_eq_true rfl) 0 rfl rfl [0, 3, 4] (by decide) rfl (fun u => Eq.trans (b := [rM, rGi, rDr]) rfl rfl) (fun u => rfl) (fun v u hp => ?_)
                                  obtain ⟨g5, rfl⟩ : ∃ z, z = u := ⟨_, rfl⟩
                                  obtain ⟨rfl, p249_0⟩ := hp
                                  show RW X 0 0 252 [(0, .ref rM), (2, .int (nI i))] [] [(rM, .inr (12, [.int (nI tn), .int (nI n), .int (nI (n / 2)), .int (nI 2), .int (nI sy), .ref rTh, .int (nI ez), .int la, .int ma, .long x1, .ref rTe, .int (bz md), .ref rPu, .ref rWh, .ref rGi, .ref rDr, .ref rTr, .ref rKn, .ref rRo, .int (nI k), .int (nI sz), .ref rTx])), (rTh, .inl (X.1.2.1, 36, .inl (nO th))), (rTe, .inl (X.1.2.1, 7, .inl (nO (te4 te ((drawW n N 200 x (te 1)).2.2.1) (te 2 + (i + 1)) p1)))), (rGi, .inl (X.1.2.1, 36, .inl (eb g5))), (rDr, .inl (X.1.2.1, 36, .inl (eb d9))), (rTr, .inl (X.1.2.1, 36, .inl (eb t4))), (rKn, .inl (X.1.2.1, 36, .inl (eb kn))), (rRo, .inl (X.1.2.1, 36, .inl (nO r2)))]
                                  have hag5 : ∀ d, d < N → g5 d = gm d := fun d q => by rw [p249_0.1 d q]; exact pb_of hof hdw.2 hun hso q (hag4 d q)
                                  have hv5 : ∀ d v, g5 d = some v → v < n := fun d v e => by
                                    by_cases q : d < N
                                    · rw [hag5 d q] at e; exact hdw.1.1 d v (hof d v e)
                                    · rw [p249_0.2 d (by omega)] at e; exact hv4 d v e
                                  refine r_aload_n C dX11_isGood_252 0 rfl rfl ?_
                                  refine r_get C dX11_isGood_253 iX11_isGood_X11 10 fX11_isGood_18 0 rfl rfl (by decide) rfl ?_
                                  refine r_iconst C dX11_isGood_256 (v := nI 3) (by decide) ?_
                                  refine r_dup2 C dX11_isGood_257 rfl rfl ?_
                                  refine r_iald C dX11_isGood_258 2 rfl (by omega) (by omega) ?_
                                  show RW X 0 0 259 [(0, .ref rM), (2, .int (nI i))] [.int (nI (te4 te ((drawW n N 200 x (te 1)).2.2.1) (te 2 + (i + 1)) p1 3)), .int (nI 3), .ref rTe] [(rM, .inr (12, [.int (nI tn), .int (nI n), .int (nI (n / 2)), .int (nI 2), .int (nI sy), .ref rTh, .int (nI ez), .int la, .int ma, .long x1, .ref rTe, .int (bz md), .ref rPu, .ref rWh, .ref rGi, .ref rDr, .ref rTr, .ref rKn, .ref rRo, .int (nI k), .int (nI sz), .ref rTx])), (rTh, .inl (X.1.2.1, 36, .inl (nO th))), (rTe, .inl (X.1.2.1, 7, .inl (nO (te4 te ((drawW n N 200 x (te 1)).2.2.1) (te 2 + (i + 1)) p1)))), (rGi, .inl (X.1.2.1, 36, .inl (eb g5))), (rDr, .inl (X.1.2.1, 36, .inl (eb d9))), (rTr, .inl (X.1.2.1, 36, .inl (eb t4))), (rKn, .inl (X.1.2.1, 36, .inl (eb kn))), (rRo, .inl (X.1.2.1, 36, .inl (nO r2)))]
                                  refine r_iconst C dX11_isGood_259 (v := nI 1) (by decide) ?_
                                  refine r_iadd C dX11_isGood_260 (v := nI ((te4 te ((drawW n N 200 x (te 1)).2.2.1) (te 2 + (i + 1)) p1 3) + 1)) (nI_add _ _) ?_
                                  refine r_iast C dX11_isGood_261 2 rfl (by omega) (by omega) (ws' := [(rM, .inr (12, [.int (nI tn), .int (nI n), .int (nI (n / 2)), .int (nI 2), .int (nI sy), .ref rTh, .int (nI ez), .int la, .int ma, .long x1, .ref rTe, .int (bz md), .ref rPu, .ref rWh, .ref rGi, .ref rDr, .ref rTr, .ref rKn, .ref rRo, .int (nI k), .int (nI sz), .ref rTx])), (rTh, .inl (X.1.2.1, 36, .inl (nO th))), (rTe, .inl (X.1.2.1, 7, .inl (upd (nO (te4 te ((drawW n N 200 x (te 1)).2.2.1) (te 2 + (i + 1)) p1)) 3 (nI ((te4 te ((drawW n N 200 x (te 1)).2.2.1) (te 2 + (i + 1)) p1 3) + 1))))), (rGi, .inl (X.1.2.1, 36, .inl (eb g5))), (rDr, .inl (X.1.2.1, 36, .inl (eb d9))), (rTr, .inl (X.1.2.1, 36, .inl (eb t4))), (rKn, .inl (X.1.2.1, 36, .inl (eb kn))), (rRo, .inl (X.1.2.1, 36, .inl (nO r2)))]) rfl ?_
                                  rw [te4_3]
                                  show RW X 0 0 262 [(0, .ref rM), (2, .int (nI i))] [] [(rM, .inr (12, [.int (nI tn), .int (nI n), .int (nI (n / 2)), .int (nI 2), .int (nI sy), .ref rTh, .int (nI ez), .int la, .int ma, .long x1, .ref rTe, .int (bz md), .ref rPu, .ref rWh, .ref rGi, .ref rDr, .ref rTr, .ref rKn, .ref rRo, .int (nI k), .int (nI sz), .ref rTx])), (rTh, .inl (X.1.2.1, 36, .inl (nO th))), (rTe, .inl (X.1.2.1, 7, .inl (nO (te4 te ((drawW n N 200 x (te 1)).2.2.1) (te 2 + (i + 1)) (p1 + 1))))), (rGi, .inl (X.1.2.1, 36, .inl (eb g5))), (rDr, .inl (X.1.2.1, 36, .inl (eb d9))), (rTr, .inl (X.1.2.1, 36, .inl (eb t4))), (rKn, .inl (X.1.2.1, 36, .inl (eb kn))), (rRo, .inl (X.1.2.1, 36, .inl (nO r2)))]
                                  refine r_iinc C dX11_isGood_262 1 rfl (v := nI (i + 1)) (nI_add _ _) (by decide) [1, 0] (lv' := [(0, .ref rM), (2, .int (nI (i + 1)))]) rfl ?_
                                  refine r_goto (tgt := 202) C dX11_isGood_265 (by decide) ?_
                                  exact ih202 (i + 1) g5 gm (p1 + 1) t4 (by omega) (by omega) (by rw [hgo, show k - i = (k - (i + 1)) + 1 by omega]; exact goF_t ⟨hso, by omega⟩) hag5 hv5 hof hun hc2 p232_0
                                · have h236 : ¬ (2 ≤ (min 2 (0 + cntS n N g4))) := fun e9 => h236 ((nI_leI (by omega) (by omega)).mpr e9)
                                  refine r_goto (tgt := 262) C dX11_isGood_239 (by decide) ?_
                                  refine r_iinc C dX11_isGood_262 1 rfl (v := nI (i + 1)) (nI_add _ _) (by decide) [1, 0] (lv' := [(0, .ref rM), (2, .int (nI (i + 1)))]) rfl ?_
                                  refine r_goto (tgt := 202) C dX11_isGood_265 (by decide) ?_
                                  exact ih202 (i + 1) g4 (woF (lfS n sy) (r2 i) gm) p1 t4 (by omega) (by omega) (by rw [hgo, show k - i = (k - (i + 1)) + 1 by omega]; exact goF_f (fun w => h236 (by rw [hce4]; have := w.2; omega))) hag4 hv4 (ofW_wo hof) (un_wo hun) (by omega) p232_0
                          exact L202 ((k - 0) + 1) 0 g1 (emF N th (lfS n sy) d9) (te 3) t2 (Nat.lt_succ_self _) (Nat.zero_le _) rfl hag1 hvg1 ofW_em (em_un hdw.2) hc0 p138_0
                        · have hk2 : 2 ≤ m := by have := mt (sub1b (k := m) (by omega)).mpr h155; omega
                          rw [pk_sub (show 1 ≤ m by omega)]
                          show RW X 0 0 158 [(0, .ref rM), (2, .int (nI (m - 1)))] [] [(rM, .inr (12, [.int (nI tn), .int (nI n), .int (nI (n / 2)), .int (nI 2), .int (nI sy), .ref rTh, .int (nI ez), .int la, .int ma, .long x1, .ref rTe, .int (bz md), .ref rPu, .ref rWh, .ref rGi, .ref rDr, .ref rTr, .ref rKn, .ref rRo, .int (nI k), .int (nI sz), .ref rTx])), (rTh, .inl (X.1.2.1, 36, .inl (nO th))), (rTe, .inl (X.1.2.1, 7, .inl (nO (te4 te ((drawW n N 200 x (te 1)).2.2.1) (te 2) (te 3))))), (rGi, .inl (X.1.2.1, 36, .inl (eb g1))), (rDr, .inl (X.1.2.1, 36, .inl (eb d9))), (rTr, .inl (X.1.2.1, 36, .inl (eb t2))), (rKn, .inl (X.1.2.1, 36, .inl (eb kn))), (rRo, .inl (X.1.2.1, 36, .inl (nO r2)))]
                          refine r_aload_n C dX11_isGood_158 0 rfl rfl ?_
                          refine r_iload_n C dX11_isGood_159 1 rfl rfl ?_
                          refine r_iconst C dX11_isGood_160 (v := nI 1) (by decide) ?_
                          refine r_iadd C dX11_isGood_161 (v := nI ((m - 1) + 1)) (nI_add _ _) ?_
                          refine r_callV0 (n := 1) (ws' := fun (u : Unit) => [(rM, .inr (12, [.int (nI tn), .int (nI n), .int (nI (n / 2)), .int (nI 2), .int (nI sy), .ref rTh, .int (nI ez), .int la, .int ma, .long (nx x1), .ref rTe, .int (bz md), .ref rPu, .ref rWh, .ref rGi, .ref rDr, .ref rTr, .ref rKn, .ref rRo, .int (nI k), .int (nI sz), .ref rTx])), (rTh, .inl (X.1.2.1, 36, .inl (nO th))), (rTe, .inl (X.1.2.1, 7, .inl (nO (te4 te ((drawW n N 200 x (te 1)).2.2.1) (te 2) (te 3))))), (rGi, .inl (X.1.2.1, 36, .inl (eb g1))), (rDr, .inl (X.1.2.1, 36, .inl (eb d9))), (rTr, .inl (X.1.2.1, 36, .inl (eb t2))), (rKn, .inl (X.1.2.1, 36, .inl (eb kn))), (rRo, .inl (X.1.2.1, 36, .inl (nO r2)))]) C dX11_isGood_162 (c_X11_below (g := X.1) (l := X.2.2.1) (rM := rM) (rTh := rTh) (rTe := rTe) (rPu := rPu) (rWh := rWh) (rGi := rGi) (rDr := rDr) (rTr := rTr) (rKn := rKn) (rRo := rRo) (rTx := rTx) (tn := tn) (n := n) (N := N) (sy := sy) (ez := ez) (la := la) (ma := ma) (x := x1) (md := md) (rws := k) (sz := sz) (k := (m - 1) + 1) (hk := (by omega)) (hk2 := (by omega))) gX11_isGood_X11_below rfl (by decide +kernel) rfl ⟨Nat.le_of_ble_eq_true rfl, Nat.le_of_ble_eq_true rfl⟩ ⟨rfl, rfl⟩ ⟨Nat.zero_le _, Nat.zero_le _⟩ (rest := []) rfl (Nat.le_of_ble_eq_true rfl) 0 rfl rfl [0] (by decide) rfl (fun u => Eq.trans (b := [rM]) rfl rfl) (fun u => rfl) (fun v u hp => ?_)
                          obtain rfl := hp
                          show RW X 0 0 165 [(0, .ref rM), (2, .int (nI (m - 1)))] [.int (nI (hb (nx x1) % ((m - 1) + 1)))] [(rM, .inr (12, [.int (nI tn), .int (nI n), .int (nI (n / 2)), .int (nI 2), .int (nI sy), .ref rTh, .int (nI ez), .int la, .int ma, .long (nx x1), .ref rTe, .int (bz md), .ref rPu, .ref rWh, .ref rGi, .ref rDr, .ref rTr, .ref rKn, .ref rRo, .int (nI k), .int (nI sz), .ref rTx])), (rTh, .inl (X.1.2.1, 36, .inl (nO th))), (rTe, .inl (X.1.2.1, 7, .inl (nO (te4 te ((drawW n N 200 x (te 1)).2.2.1) (te 2) (te 3))))), (rGi, .inl (X.1.2.1, 36, .inl (eb g1))), (rDr, .inl (X.1.2.1, 36, .inl (eb d9))), (rTr, .inl (X.1.2.1, 36, .inl (eb t2))), (rKn, .inl (X.1.2.1, 36, .inl (eb kn))), (rRo, .inl (X.1.2.1, 36, .inl (nO r2)))]
                          have hj9 : hb (nx x1) % (m - 1 + 1) < m - 1 + 1 := Nat.mod_lt _ (by omega)
                          refine r_istore_n C dX11_isGood_165 rfl (by decide) [1, 2, 0] (lv' := [(0, .ref rM), (2, .int (nI (m - 1))), (3, .int (nI (hb (nx x1) % ((m - 1) + 1))))]) rfl ?_
                          refine r_aload_n C dX11_isGood_166 0 rfl rfl ?_
                          refine r_get C dX11_isGood_167 iX11_isGood_X11 18 fX11_isGood_39 0 rfl rfl (by decide) rfl ?_
                          refine r_iload_n C dX11_isGood_170 1 rfl rfl ?_
                          refine r_iald C dX11_isGood_171 7 rfl (by omega) (by omega) ?_
                          show RW X 0 0 172 [(0, .ref rM), (2, .int (nI (m - 1))), (3, .int (nI (hb (nx x1) % ((m - 1) + 1))))] [.int (nI (r2 (m - 1)))] [(rM, .inr (12, [.int (nI tn), .int (nI n), .int (nI (n / 2)), .int (nI 2), .int (nI sy), .ref rTh, .int (nI ez), .int la, .int ma, .long (nx x1), .ref rTe, .int (bz md), .ref rPu, .ref rWh, .ref rGi, .ref rDr, .ref rTr, .ref rKn, .ref rRo, .int (nI k), .int (nI sz), .ref rTx])), (rTh, .inl (X.1.2.1, 36, .inl (nO th))), (rTe, .inl (X.1.2.1, 7, .inl (nO (te4 te ((drawW n N 200 x (te 1)).2.2.1) (te 2) (te 3))))), (rGi, .inl (X.1.2.1, 36, .inl (eb g1))), (rDr, .inl (X.1.2.1, 36, .inl (eb d9))), (rTr, .inl (X.1.2.1, 36, .inl (eb t2))), (rKn, .inl (X.1.2.1, 36, .inl (eb kn))), (rRo, .inl (X.1.2.1, 36, .inl (nO r2)))]
                          refine r_istore C dX11_isGood_172 (by decide) [1, 2, 3, 0] (lv' := [(0, .ref rM), (2, .int (nI (m - 1))), (3, .int (nI (hb (nx x1) % ((m - 1) + 1)))), (4, .int (nI (r2 (m - 1))))]) rfl ?_
                          refine r_aload_n C dX11_isGood_174 0 rfl rfl ?_
                          refine r_get C dX11_isGood_175 iX11_isGood_X11 18 fX11_isGood_39 0 rfl rfl (by decide) rfl ?_
                          refine r_iload_n C dX11_isGood_178 1 rfl rfl ?_
                          refine r_aload_n C dX11_isGood_179 0 rfl rfl ?_
                          refine r_get C dX11_isGood_180 iX11_isGood_X11 18 fX11_isGood_39 0 rfl rfl (by decide) rfl ?_
                          refine r_iload_n C dX11_isGood_183 2 rfl rfl ?_
                          refine r_iald C dX11_isGood_184 7 rfl (by omega) (by omega) ?_
                          show RW X 0 0 185 [(0, .ref rM), (2, .int (nI (m - 1))), (3, .int (nI (hb (nx x1) % ((m - 1) + 1)))), (4, .int (nI (r2 (m - 1))))] [.int (nI (r2 (hb (nx x1) % ((m - 1) + 1)))), .int (nI (m - 1)), .ref rRo] [(rM, .inr (12, [.int (nI tn), .int (nI n), .int (nI (n / 2)), .int (nI 2), .int (nI sy), .ref rTh, .int (nI ez), .int la, .int ma, .long (nx x1), .ref rTe, .int (bz md), .ref rPu, .ref rWh, .ref rGi, .ref rDr, .ref rTr, .ref rKn, .ref rRo, .int (nI k), .int (nI sz), .ref rTx])), (rTh, .inl (X.1.2.1, 36, .inl (nO th))), (rTe, .inl (X.1.2.1, 7, .inl (nO (te4 te ((drawW n N 200 x (te 1)).2.2.1) (te 2) (te 3))))), (rGi, .inl (X.1.2.1, 36, .inl (eb g1))), (rDr, .inl (X.1.2.1, 36, .inl (eb d9))), (rTr, .inl (X.1.2.1, 36, .inl (eb t2))), (rKn, .inl (X.1.2.1, 36, .inl (eb kn))), (rRo, .inl (X.1.2.1, 36, .inl (nO r2)))]
                          refine r_iast C dX11_isGood_185 7 rfl (by omega) (by omega) (ws' := [(rM, .inr (12, [.int (nI tn), .int (nI n), .int (nI (n / 2)), .int (nI 2), .int (nI sy), .ref rTh, .int (nI ez), .int la, .int ma, .long (nx x1), .ref rTe, .int (bz md), .ref rPu, .ref rWh, .ref rGi, .ref rDr, .ref rTr, .ref rKn, .ref rRo, .int (nI k), .int (nI sz), .ref rTx])), (rTh, .inl (X.1.2.1, 36, .inl (nO th))), (rTe, .inl (X.1.2.1, 7, .inl (nO (te4 te ((drawW n N 200 x (te 1)).2.2.1) (te 2) (te 3))))), (rGi, .inl (X.1.2.1, 36, .inl (eb g1))), (rDr, .inl (X.1.2.1, 36, .inl (eb d9))), (rTr, .inl (X.1.2.1, 36, .inl (eb t2))), (rKn, .inl (X.1.2.1, 36, .inl (eb kn))), (rRo, .inl (X.1.2.1, 36, .inl (upd (nO r2) (m - 1) (nI (r2 (hb (nx x1) % ((m - 1) + 1)))))))]) rfl ?_
                          refine r_aload_n C dX11_isGood_186 0 rfl rfl ?_
                          refine r_get C dX11_isGood_187 iX11_isGood_X11 18 fX11_isGood_39 0 rfl rfl (by decide) rfl ?_
                          refine r_iload_n C dX11_isGood_190 2 rfl rfl ?_
                          refine r_iload C dX11_isGood_191 3 rfl ?_
                          refine r_iast C dX11_isGood_193 7 rfl (by omega) (by omega) (ws' := [(rM, .inr (12, [.int (nI tn), .int (nI n), .int (nI (n / 2)), .int (nI 2), .int (nI sy), .ref rTh, .int (nI ez), .int la, .int ma, .long (nx x1), .ref rTe, .int (bz md), .ref rPu, .ref rWh, .ref rGi, .ref rDr, .ref rTr, .ref rKn, .ref rRo, .int (nI k), .int (nI sz), .ref rTx])), (rTh, .inl (X.1.2.1, 36, .inl (nO th))), (rTe, .inl (X.1.2.1, 7, .inl (nO (te4 te ((drawW n N 200 x (te 1)).2.2.1) (te 2) (te 3))))), (rGi, .inl (X.1.2.1, 36, .inl (eb g1))), (rDr, .inl (X.1.2.1, 36, .inl (eb d9))), (rTr, .inl (X.1.2.1, 36, .inl (eb t2))), (rKn, .inl (X.1.2.1, 36, .inl (eb kn))), (rRo, .inl (X.1.2.1, 36, .inl (upd (upd (nO r2) (m - 1) (nI (r2 (hb (nx x1) % ((m - 1) + 1))))) (hb (nx x1) % ((m - 1) + 1)) (nI (r2 (m - 1))))))]) rfl ?_
                          rw [nO_u, nO_u]
                          show RW X 0 0 194 [(0, .ref rM), (2, .int (nI (m - 1))), (3, .int (nI (hb (nx x1) % ((m - 1) + 1)))), (4, .int (nI (r2 (m - 1))))] [] [(rM, .inr (12, [.int (nI tn), .int (nI n), .int (nI (n / 2)), .int (nI 2), .int (nI sy), .ref rTh, .int (nI ez), .int la, .int ma, .long (nx x1), .ref rTe, .int (bz md), .ref rPu, .ref rWh, .ref rGi, .ref rDr, .ref rTr, .ref rKn, .ref rRo, .int (nI k), .int (nI sz), .ref rTx])), (rTh, .inl (X.1.2.1, 36, .inl (nO th))), (rTe, .inl (X.1.2.1, 7, .inl (nO (te4 te ((drawW n N 200 x (te 1)).2.2.1) (te 2) (te 3))))), (rGi, .inl (X.1.2.1, 36, .inl (eb g1))), (rDr, .inl (X.1.2.1, 36, .inl (eb d9))), (rTr, .inl (X.1.2.1, 36, .inl (eb t2))), (rKn, .inl (X.1.2.1, 36, .inl (eb kn))), (rRo, .inl (X.1.2.1, 36, .inl (nO (uO (uO r2 (m - 1) (r2 (hb (nx x1) % (m - 1 + 1)))) (hb (nx x1) % (m - 1 + 1)) (r2 (m - 1))))))]
                          refine r_iinc C dX11_isGood_194 1 rfl (v := nI (m - 1) - nI 1) (i32_m1 _) (by decide) [1, 0, 2, 3] (lv' := [(0, .ref rM), (2, .int (nI (m - 1) - nI 1)), (3, .int (nI (hb (nx x1) % ((m - 1) + 1)))), (4, .int (nI (r2 (m - 1))))]) rfl ?_
                          refine r_goto (tgt := 154) C dX11_isGood_197 (by decide) ?_
                          refine r_lv [0, 1] (lv' := [(0, .ref rM), (2, .int (nI (m - 1) - nI 1))]) rfl ?_
                          exact ih154 (m - 1) (nx x1) (uO (uO r2 (m - 1) (r2 (hb (nx x1) % (m - 1 + 1)))) (hb (nx x1) % (m - 1 + 1)) (r2 (m - 1))) (by omega) (by omega) (by rw [hF, show m - 1 = (m - 1 - 1) + 1 by omega, mixF, show m - 1 - 1 + 1 + 1 = m - 1 + 1 by omega, show m - 1 - 1 + 1 = m - 1 by omega])
                    refine r_lv [0, 2] (lv' := [(0, .ref rM), (2, .int (nI k - nI 1))]) rfl ?_
                    exact L154 (k + 1) k ((drawW n N 200 x (te 1)).2.1) r1 (Nat.lt_succ_self _) (Nat.le_refl _) rfl
                  · have h142 : ¬ ((min 2 (0 + cntS n N g1)) ≤ 1) := fun e9 => h142 ((nI_leI (by omega) (by omega)).mpr e9)
                    refine r_iconst C dX11_isGood_145 (v := nI 0) (by decide) ?_
                    have hT : tryF n N (lfS n sy) th ez la ma x (te 1) (te 2) (te 3) = _ := tryF_f (fun w => (show ¬ trP n N th (lfS n sy) d9 from fun w => h142 (by rw [hce]; have := w.2; omega)) (by rw [hW]; exact w.2))
                    rw [hT] at hret
                    refine r_top (y := bz False) ((bz_f id).symm) ?_
                    exact hret _ _ _ (g1, d9, t2, kn, r1, k) ⟨rfl, False.elim, hvg1, p138_0⟩ (Or.inr ⟨_, rfl, dX11_isGood_146, Or.inr ⟨rfl, bz_01 _⟩⟩)
              · have h49 : ¬ (N ≤ c) := fun e9 => h49 ((nI_leI (by omega) (by omega)).mpr e9)
                have hm44 : N - (c + 1) < d44 := by omega
                have hc1 : c + 1 ≤ N := by omega
                have hlc := lfS_lt (k := sy) hn (show c < N by omega)
                have hki := cn_le (P := rowP N (lfS n sy) th (emF N th (lfS n sy) d9)) c
                refine r_aload_n C dX11_isGood_52 0 rfl rfl ?_
                refine r_iload_n C dX11_isGood_53 2 rfl rfl ?_
                refine r_callV0 (n := 1) (ws' := fun (u : Unit) => [(rM, .inr (12, [.int (nI tn), .int (nI n), .int (nI (n / 2)), .int (nI 2), .int (nI sy), .ref rTh, .int (nI ez), .int la, .int ma, .long ((drawW n N 200 x (te 1)).2.1), .ref rTe, .int (bz md), .ref rPu, .ref rWh, .ref rGi, .ref rDr, .ref rTr, .ref rKn, .ref rRo, .int (nI k), .int (nI sz), .ref rTx])), (rTh, .inl (X.1.2.1, 36, .inl (nO th))), (rTe, .inl (X.1.2.1, 7, .inl (nO (te4 te ((drawW n N 200 x (te 1)).2.2.1) (te 2) (te 3))))), (rGi, .inl (X.1.2.1, 36, .inl (eb g1))), (rDr, .inl (X.1.2.1, 36, .inl (eb d9))), (rTr, .inl (X.1.2.1, 36, .inl (eb tr))), (rKn, .inl (X.1.2.1, 36, .inl (eb kn))), (rRo, .inl (X.1.2.1, 36, .inl (nO r1)))]) C dX11_isGood_54 (c_X11_leastOf (g := X.1) (l := X.2.2.1) (rM := rM) (rTh := rTh) (rTe := rTe) (rPu := rPu) (rWh := rWh) (rGi := rGi) (rDr := rDr) (rTr := rTr) (rKn := rKn) (rRo := rRo) (rTx := rTx) (tn := tn) (n := n) (N := N) (sy := sy) (ez := ez) (la := la) (ma := ma) (x := ((drawW n N 200 x (te 1)).2.1)) (md := md) (rws := k) (sz := sz) (c := c) (hn := (by first | assumption | omega)) (hsy := (by first | assumption | omega)) (hc := (by first | assumption | omega))) gX11_isGood_X11_leastOf rfl (by decide +kernel) rfl ⟨Nat.le_of_ble_eq_true rfl, Nat.le_of_ble_eq_true rfl⟩ ⟨rfl, rfl⟩ ⟨Nat.zero_le _, Nat.zero_le _⟩ (rest := []) rfl (Nat.le_of_ble_eq_true rfl) 0 rfl rfl [0] (by decide) rfl (fun u => Eq.trans (b := [rM]) rfl rfl) (fun u => rfl) (fun v u hp => ?_)
                obtain rfl := hp
                show RW X 0 0 57 [(0, .ref rM), (1, .int (bz sp)), (2, .int (nI c))] [.int (nI (lfS n sy c))] [(rM, .inr (12, [.int (nI tn), .int (nI n), .int (nI (n / 2)), .int (nI 2), .int (nI sy), .ref rTh, .int (nI ez), .int la, .int ma, .long ((drawW n N 200 x (te 1)).2.1), .ref rTe, .int (bz md), .ref rPu, .ref rWh, .ref rGi, .ref rDr, .ref rTr, .ref rKn, .ref rRo, .int (nI k), .int (nI sz), .ref rTx])), (rTh, .inl (X.1.2.1, 36, .inl (nO th))), (rTe, .inl (X.1.2.1, 7, .inl (nO (te4 te ((drawW n N 200 x (te 1)).2.2.1) (te 2) (te 3))))), (rGi, .inl (X.1.2.1, 36, .inl (eb g1))), (rDr, .inl (X.1.2.1, 36, .inl (eb d9))), (rTr, .inl (X.1.2.1, 36, .inl (eb tr))), (rKn, .inl (X.1.2.1, 36, .inl (eb kn))), (rRo, .inl (X.1.2.1, 36, .inl (nO r1)))]
                refine r_iload_n C dX11_isGood_57 2 rfl rfl ?_
                refine r_icmp_eq (tgt := 64) C dX11_isGood_58 (by decide) (fun h58 => ?_) (fun h58 => ?_)
                · have h58 : (lfS n sy c) = c := (nI_eq (by omega) (by omega)).mp h58
                  refine r_aload_n C dX11_isGood_64 0 rfl rfl ?_
                  refine r_iload_n C dX11_isGood_65 2 rfl rfl ?_
                  refine r_iconst C dX11_isGood_66 (v := nI 1) (by decide) ?_
                  refine r_callV0 (n := 2) (ws' := fun (u : Unit) => [(rM, .inr (12, [.int (nI tn), .int (nI n), .int (nI (n / 2)), .int (nI 2), .int (nI sy), .ref rTh, .int (nI ez), .int la, .int ma, .long ((drawW n N 200 x (te 1)).2.1), .ref rTe, .int (bz md), .ref rPu, .ref rWh, .ref rGi, .ref rDr, .ref rTr, .ref rKn, .ref rRo, .int (nI k), .int (nI sz), .ref rTx])), (rTh, .inl (X.1.2.1, 36, .inl (nO th))), (rTe, .inl (X.1.2.1, 7, .inl (nO (te4 te ((drawW n N 200 x (te 1)).2.2.1) (te 2) (te 3))))), (rGi, .inl (X.1.2.1, 36, .inl (eb g1))), (rDr, .inl (X.1.2.1, 36, .inl (eb d9))), (rTr, .inl (X.1.2.1, 36, .inl (eb tr))), (rKn, .inl (X.1.2.1, 36, .inl (eb kn))), (rRo, .inl (X.1.2.1, 36, .inl (nO r1)))]) C dX11_isGood_67 (c_X11_hasTheme (g := X.1) (l := X.2.2.1) (rM := rM) (rTh := rTh) (rTe := rTe) (rPu := rPu) (rWh := rWh) (rGi := rGi) (rDr := rDr) (rTr := rTr) (rKn := rKn) (rRo := rRo) (rTx := rTx) (tn := tn) (n := n) (N := N) (sy := sy) (ez := ez) (la := la) (ma := ma) (x := ((drawW n N 200 x (te 1)).2.1)) (md := md) (rws := k) (sz := sz) (th := th) (ls := c) (w := 1) (hn := (by first | assumption | omega)) (hsy := (by first | assumption | omega)) (hth := (by first | assumption | omega)) (hls := (by omega)) (hw := (by omega))) gX11_isGood_X11_hasTheme rfl (by decide +kernel) rfl ⟨Nat.le_of_ble_eq_true rfl, Nat.le_of_ble_eq_true rfl⟩ ⟨rfl, rfl⟩ ⟨Nat.zero_le _, Nat.zero_le _⟩ (rest := []) rfl (Nat.le_of_ble_eq_true rfl) 0 rfl rfl [0, 1] (by decide) rfl (fun u => Eq.trans (b := [rM, rTh]) rfl rfl) (fun u => rfl) (fun v u hp => ?_)
                  obtain rfl := hp
                  show RW X 0 0 70 [(0, .ref rM), (1, .int (bz sp)), (2, .int (nI c))] [.int (bz (∃ d, d < N ∧ th d = 1 ∧ lfS n sy d = c))] [(rM, .inr (12, [.int (nI tn), .int (nI n), .int (nI (n / 2)), .int (nI 2), .int (nI sy), .ref rTh, .int (nI ez), .int la, .int ma, .long ((drawW n N 200 x (te 1)).2.1), .ref rTe, .int (bz md), .ref rPu, .ref rWh, .ref rGi, .ref rDr, .ref rTr, .ref rKn, .ref rRo, .int (nI k), .int (nI sz), .ref rTx])), (rTh, .inl (X.1.2.1, 36, .inl (nO th))), (rTe, .inl (X.1.2.1, 7, .inl (nO (te4 te ((drawW n N 200 x (te 1)).2.2.1) (te 2) (te 3))))), (rGi, .inl (X.1.2.1, 36, .inl (eb g1))), (rDr, .inl (X.1.2.1, 36, .inl (eb d9))), (rTr, .inl (X.1.2.1, 36, .inl (eb tr))), (rKn, .inl (X.1.2.1, 36, .inl (eb kn))), (rRo, .inl (X.1.2.1, 36, .inl (nO r1)))]
                  refine r_istore_n C dX11_isGood_70 rfl (by decide) [1, 2, 3, 0] (lv' := [(0, .ref rM), (1, .int (bz sp)), (2, .int (nI c)), (3, .int (bz (∃ d, d < N ∧ th d = 1 ∧ lfS n sy d = c)))]) rfl ?_
                  refine r_aload_n C dX11_isGood_71 0 rfl rfl ?_
                  refine r_iload_n C dX11_isGood_72 2 rfl rfl ?_
                  refine r_iconst C dX11_isGood_73 (v := nI 2) (by decide) ?_
                  refine r_callV0 (n := 2) (ws' := fun (u : Unit) => [(rM, .inr (12, [.int (nI tn), .int (nI n), .int (nI (n / 2)), .int (nI 2), .int (nI sy), .ref rTh, .int (nI ez), .int la, .int ma, .long ((drawW n N 200 x (te 1)).2.1), .ref rTe, .int (bz md), .ref rPu, .ref rWh, .ref rGi, .ref rDr, .ref rTr, .ref rKn, .ref rRo, .int (nI k), .int (nI sz), .ref rTx])), (rTh, .inl (X.1.2.1, 36, .inl (nO th))), (rTe, .inl (X.1.2.1, 7, .inl (nO (te4 te ((drawW n N 200 x (te 1)).2.2.1) (te 2) (te 3))))), (rGi, .inl (X.1.2.1, 36, .inl (eb g1))), (rDr, .inl (X.1.2.1, 36, .inl (eb d9))), (rTr, .inl (X.1.2.1, 36, .inl (eb tr))), (rKn, .inl (X.1.2.1, 36, .inl (eb kn))), (rRo, .inl (X.1.2.1, 36, .inl (nO r1)))]) C dX11_isGood_74 (c_X11_hasTheme (g := X.1) (l := X.2.2.1) (rM := rM) (rTh := rTh) (rTe := rTe) (rPu := rPu) (rWh := rWh) (rGi := rGi) (rDr := rDr) (rTr := rTr) (rKn := rKn) (rRo := rRo) (rTx := rTx) (tn := tn) (n := n) (N := N) (sy := sy) (ez := ez) (la := la) (ma := ma) (x := ((drawW n N 200 x (te 1)).2.1)) (md := md) (rws := k) (sz := sz) (th := th) (ls := c) (w := 2) (hn := (by first | assumption | omega)) (hsy := (by first | assumption | omega)) (hth := (by first | assumption | omega)) (hls := (by omega)) (hw := (by omega))) gX11_isGood_X11_hasTheme rfl (by decide +kernel) rfl ⟨Nat.le_of_ble_eq_true rfl, Nat.le_of_ble_eq_true rfl⟩ ⟨rfl, rfl⟩ ⟨Nat.zero_le _, Nat.zero_le _⟩ (rest := []) rfl (Nat.le_of_ble_eq_true rfl) 0 rfl rfl [0, 1] (by decide) rfl (fun u => Eq.trans (b := [rM, rTh]) rfl rfl) (fun u => rfl) (fun v u hp => ?_)
                  obtain rfl := hp
                  show RW X 0 0 77 [(0, .ref rM), (1, .int (bz sp)), (2, .int (nI c)), (3, .int (bz (∃ d, d < N ∧ th d = 1 ∧ lfS n sy d = c)))] [.int (bz (∃ d, d < N ∧ th d = 2 ∧ lfS n sy d = c))] [(rM, .inr (12, [.int (nI tn), .int (nI n), .int (nI (n / 2)), .int (nI 2), .int (nI sy), .ref rTh, .int (nI ez), .int la, .int ma, .long ((drawW n N 200 x (te 1)).2.1), .ref rTe, .int (bz md), .ref rPu, .ref rWh, .ref rGi, .ref rDr, .ref rTr, .ref rKn, .ref rRo, .int (nI k), .int (nI sz), .ref rTx])), (rTh, .inl (X.1.2.1, 36, .inl (nO th))), (rTe, .inl (X.1.2.1, 7, .inl (nO (te4 te ((drawW n N 200 x (te 1)).2.2.1) (te 2) (te 3))))), (rGi, .inl (X.1.2.1, 36, .inl (eb g1))), (rDr, .inl (X.1.2.1, 36, .inl (eb d9))), (rTr, .inl (X.1.2.1, 36, .inl (eb tr))), (rKn, .inl (X.1.2.1, 36, .inl (eb kn))), (rRo, .inl (X.1.2.1, 36, .inl (nO r1)))]
                  refine r_if_eq (tgt := 102) C dX11_isGood_77 (by decide) (fun h77 => ?_) (fun h77 => ?_)
                  · have h77 : ¬ (∃ d, d < N ∧ th d = 2 ∧ lfS n sy d = c) := bz_0.mp h77
                    refine r_iload_n C dX11_isGood_102 3 rfl rfl ?_
                    refine r_if_ne (tgt := 126) C dX11_isGood_103 (by decide) (fun h103 => ?_) (fun h103 => ?_)
                    · have h103 : ∃ d, d < N ∧ th d = 1 ∧ lfS n sy d = c := bz_n0.mp h103
                      refine r_iinc C dX11_isGood_126 2 rfl (v := nI (c + 1)) (nI_add _ _) (by decide) [1, 2, 0, 3] (lv' := [(0, .ref rM), (1, .int (bz sp)), (2, .int (nI (c + 1))), (3, .int (bz (∃ d, d < N ∧ th d = 1 ∧ lfS n sy d = c)))]) rfl ?_
                      refine r_goto (tgt := 44) C dX11_isGood_129 (by decide) ?_
                      refine r_lv [0, 1, 2] (lv' := [(0, .ref rM), (1, .int (bz sp)), (2, .int (nI (c + 1)))]) rfl ?_
                      exact ih44 (c + 1) sp k g1 r1 hm44 hc1 (hsp.trans (ex_skip (P := fun e => lfS n sy e = e ∧ (∃ d, d < N ∧ th d = 1 ∧ lfS n sy d = e) ∧ ∃ d, d < N ∧ th d = 2 ∧ lfS n sy d = e) (fun w => h77 w.2.2))) (by rw [hg1]; exact stE_skip (fun d q => lfS_id hn hsy q) (fun w => h77 w.2)) (by show k = _ + dI _; rw [dI_f (fun w => w.2.2 h103)]; exact hk) hr1
                    · have h103 : ¬ (∃ d, d < N ∧ th d = 1 ∧ lfS n sy d = c) := bz_0.mp h103
                      refine r_aload_n C dX11_isGood_106 0 rfl rfl ?_
                      refine r_get C dX11_isGood_107 iX11_isGood_X11 18 fX11_isGood_39 0 rfl rfl (by decide) rfl ?_
                      refine r_aload_n C dX11_isGood_110 0 rfl rfl ?_
                      refine r_get C dX11_isGood_111 iX11_isGood_X11 19 fX11_isGood_126 0 rfl rfl (by decide) rfl ?_
                      refine r_iload_n C dX11_isGood_114 2 rfl rfl ?_
                      refine r_iast C dX11_isGood_115 7 rfl (by omega) (by omega) (ws' := [(rM, .inr (12, [.int (nI tn), .int (nI n), .int (nI (n / 2)), .int (nI 2), .int (nI sy), .ref rTh, .int (nI ez), .int la, .int ma, .long ((drawW n N 200 x (te 1)).2.1), .ref rTe, .int (bz md), .ref rPu, .ref rWh, .ref rGi, .ref rDr, .ref rTr, .ref rKn, .ref rRo, .int (nI k), .int (nI sz), .ref rTx])), (rTh, .inl (X.1.2.1, 36, .inl (nO th))), (rTe, .inl (X.1.2.1, 7, .inl (nO (te4 te ((drawW n N 200 x (te 1)).2.2.1) (te 2) (te 3))))), (rGi, .inl (X.1.2.1, 36, .inl (eb g1))), (rDr, .inl (X.1.2.1, 36, .inl (eb d9))), (rTr, .inl (X.1.2.1, 36, .inl (eb tr))), (rKn, .inl (X.1.2.1, 36, .inl (eb kn))), (rRo, .inl (X.1.2.1, 36, .inl (upd (nO r1) k (nI c))))]) rfl ?_
                      rw [nO_u]
                      show RW X 0 0 116 [(0, .ref rM), (1, .int (bz sp)), (2, .int (nI c)), (3, .int (bz (∃ d, d < N ∧ th d = 1 ∧ lfS n sy d = c)))] [] [(rM, .inr (12, [.int (nI tn), .int (nI n), .int (nI (n / 2)), .int (nI 2), .int (nI sy), .ref rTh, .int (nI ez), .int la, .int ma, .long ((drawW n N 200 x (te 1)).2.1), .ref rTe, .int (bz md), .ref rPu, .ref rWh, .ref rGi, .ref rDr, .ref rTr, .ref rKn, .ref rRo, .int (nI k), .int (nI sz), .ref rTx])), (rTh, .inl (X.1.2.1, 36, .inl (nO th))), (rTe, .inl (X.1.2.1, 7, .inl (nO (te4 te ((drawW n N 200 x (te 1)).2.2.1) (te 2) (te 3))))), (rGi, .inl (X.1.2.1, 36, .inl (eb g1))), (rDr, .inl (X.1.2.1, 36, .inl (eb d9))), (rTr, .inl (X.1.2.1, 36, .inl (eb tr))), (rKn, .inl (X.1.2.1, 36, .inl (eb kn))), (rRo, .inl (X.1.2.1, 36, .inl (nO (uO r1 k c))))]
                      refine r_aload_n C dX11_isGood_116 0 rfl rfl ?_
                      refine r_dup C dX11_isGood_117 rfl ?_
                      refine r_get C dX11_isGood_118 iX11_isGood_X11 19 fX11_isGood_126 0 rfl rfl (by decide) rfl ?_
                      refine r_iconst C dX11_isGood_121 (v := nI 1) (by decide) ?_
                      refine r_iadd C dX11_isGood_122 (v := nI (k + 1)) (nI_add _ _) ?_
                      refine r_put C dX11_isGood_123 iX11_isGood_X11 tyX11 tyX11_ok nmX11 19 fX11_isGood_126 0 rfl rfl (by decide) rfl rfl rfl rfl (Nat.le_of_ble_eq_true rfl) (ws' := [(rM, .inr (12, [.int (nI tn), .int (nI n), .int (nI (n / 2)), .int (nI 2), .int (nI sy), .ref rTh, .int (nI ez), .int la, .int ma, .long ((drawW n N 200 x (te 1)).2.1), .ref rTe, .int (bz md), .ref rPu, .ref rWh, .ref rGi, .ref rDr, .ref rTr, .ref rKn, .ref rRo, .int (nI (k + 1)), .int (nI sz), .ref rTx])), (rTh, .inl (X.1.2.1, 36, .inl (nO th))), (rTe, .inl (X.1.2.1, 7, .inl (nO (te4 te ((drawW n N 200 x (te 1)).2.2.1) (te 2) (te 3))))), (rGi, .inl (X.1.2.1, 36, .inl (eb g1))), (rDr, .inl (X.1.2.1, 36, .inl (eb d9))), (rTr, .inl (X.1.2.1, 36, .inl (eb tr))), (rKn, .inl (X.1.2.1, 36, .inl (eb kn))), (rRo, .inl (X.1.2.1, 36, .inl (nO (uO r1 k c))))]) rfl ?_
                      refine r_iinc C dX11_isGood_126 2 rfl (v := nI (c + 1)) (nI_add _ _) (by decide) [1, 2, 0, 3] (lv' := [(0, .ref rM), (1, .int (bz sp)), (2, .int (nI (c + 1))), (3, .int (bz (∃ d, d < N ∧ th d = 1 ∧ lfS n sy d = c)))]) rfl ?_
                      refine r_goto (tgt := 44) C dX11_isGood_129 (by decide) ?_
                      refine r_lv [0, 1, 2] (lv' := [(0, .ref rM), (1, .int (bz sp)), (2, .int (nI (c + 1)))]) rfl ?_
                      exact ih44 (c + 1) sp (k + 1) g1 (uO r1 k c) hm44 hc1 (hsp.trans (ex_skip (P := fun e => lfS n sy e = e ∧ (∃ d, d < N ∧ th d = 1 ∧ lfS n sy d = e) ∧ ∃ d, d < N ∧ th d = 2 ∧ lfS n sy d = e) (fun w => h77 w.2.2))) (by rw [hg1]; exact stE_skip (fun d q => lfS_id hn hsy q) (fun w => h77 w.2)) (by show k + 1 = _ + dI _; rw [dI_t ⟨h58, by rw [emF_f (by rw [h58]; exact h77)]; exact hdw.2 c (by omega), h103⟩, hk]) (row_S (P := rowP N (lfS n sy) th (emF N th (lfS n sy) d9)) hr1 ⟨h58, by rw [emF_f (by rw [h58]; exact h77)]; exact hdw.2 c (by omega), h103⟩ hk)
                  · have h77 : ∃ d, d < N ∧ th d = 2 ∧ lfS n sy d = c := bz_n0.mp h77
                    refine r_iload_n C dX11_isGood_80 1 rfl rfl ?_
                    refine r_if_ne (tgt := 88) C dX11_isGood_81 (by decide) (fun h81 => ?_) (fun h81 => ?_)
                    · have h81 : sp := bz_n0.mp h81
                      refine r_iconst C dX11_isGood_88 (v := nI 1) (by decide) ?_
                      refine r_goto (tgt := 93) C dX11_isGood_89 (by decide) ?_
                      refine r_top (y := bz (sp ∨ (∃ d, d < N ∧ th d = 1 ∧ lfS n sy d = c))) (bz_t (Or.inl h81)).symm ?_
                      refine r_istore_n C dX11_isGood_93 rfl (by decide) [1, 0, 2, 3] (lv' := [(0, .ref rM), (1, .int (bz (sp ∨ (∃ d, d < N ∧ th d = 1 ∧ lfS n sy d = c)))), (2, .int (nI c)), (3, .int (bz (∃ d, d < N ∧ th d = 1 ∧ lfS n sy d = c)))]) rfl ?_
                      refine r_aload_n C dX11_isGood_94 0 rfl rfl ?_
                      refine r_iload_n C dX11_isGood_95 2 rfl rfl ?_
                      refine r_callV0 (n := 1) (ws' := fun (u : (Nat → Option Nat)) => [(rM, .inr (12, [.int (nI tn), .int (nI n), .int (nI (n / 2)), .int (nI 2), .int (nI sy), .ref rTh, .int (nI ez), .int la, .int ma, .long ((drawW n N 200 x (te 1)).2.1), .ref rTe, .int (bz md), .ref rPu, .ref rWh, .ref rGi, .ref rDr, .ref rTr, .ref rKn, .ref rRo, .int (nI k), .int (nI sz), .ref rTx])), (rTh, .inl (X.1.2.1, 36, .inl (nO th))), (rTe, .inl (X.1.2.1, 7, .inl (nO (te4 te ((drawW n N 200 x (te 1)).2.2.1) (te 2) (te 3))))), (rGi, .inl (X.1.2.1, 36, .inl (eb u))), (rDr, .inl (X.1.2.1, 36, .inl (eb d9))), (rTr, .inl (X.1.2.1, 36, .inl (eb tr))), (rKn, .inl (X.1.2.1, 36, .inl (eb kn))), (rRo, .inl (X.1.2.1, 36, .inl (nO r1)))]) C dX11_isGood_96 (c_X11_takeOut (g := X.1) (l := X.2.2.1) (rM := rM) (rTh := rTh) (rTe := rTe) (rPu := rPu) (rWh := rWh) (rGi := rGi) (rDr := rDr) (rTr := rTr) (rKn := rKn) (rRo := rRo) (rTx := rTx) (tn := tn) (n := n) (N := N) (sy := sy) (ez := ez) (la := la) (ma := ma) (x := ((drawW n N 200 x (te 1)).2.1)) (md := md) (rws := k) (sz := sz) (gi := g1) (ls := c) (hn := (by first | assumption | omega)) (hsy := (by first | assumption | omega)) (hls := (by omega))) gX11_isGood_X11_takeOut rfl (by decide +kernel) rfl ⟨Nat.le_of_ble_eq_true rfl, Nat.le_of_ble_eq_true rfl⟩ ⟨rfl, rfl⟩ ⟨Nat.zero_le _, Nat.zero_le _⟩ (rest := []) rfl (Nat.le_of_ble_eq_true rfl) 0 rfl rfl [0, 3] (by decide) rfl (fun u => Eq.trans (b := [rM, rGi]) rfl rfl) (fun u => rfl) (fun v u hp => ?_)
                      obtain ⟨g3, rfl⟩ : ∃ z, z = u := ⟨_, rfl⟩
                      obtain ⟨rfl, p96_0⟩ := hp
                      show RW X 0 0 99 [(0, .ref rM), (1, .int (bz (sp ∨ (∃ d, d < N ∧ th d = 1 ∧ lfS n sy d = c)))), (2, .int (nI c)), (3, .int (bz (∃ d, d < N ∧ th d = 1 ∧ lfS n sy d = c)))] [] [(rM, .inr (12, [.int (nI tn), .int (nI n), .int (nI (n / 2)), .int (nI 2), .int (nI sy), .ref rTh, .int (nI ez), .int la, .int ma, .long ((drawW n N 200 x (te 1)).2.1), .ref rTe, .int (bz md), .ref rPu, .ref rWh, .ref rGi, .ref rDr, .ref rTr, .ref rKn, .ref rRo, .int (nI k), .int (nI sz), .ref rTx])), (rTh, .inl (X.1.2.1, 36, .inl (nO th))), (rTe, .inl (X.1.2.1, 7, .inl (nO (te4 te ((drawW n N 200 x (te 1)).2.2.1) (te 2) (te 3))))), (rGi, .inl (X.1.2.1, 36, .inl (eb g3))), (rDr, .inl (X.1.2.1, 36, .inl (eb d9))), (rTr, .inl (X.1.2.1, 36, .inl (eb tr))), (rKn, .inl (X.1.2.1, 36, .inl (eb kn))), (rRo, .inl (X.1.2.1, 36, .inl (nO r1)))]
                      refine r_goto (tgt := 126) C dX11_isGood_99 (by decide) ?_
                      refine r_iinc C dX11_isGood_126 2 rfl (v := nI (c + 1)) (nI_add _ _) (by decide) [1, 2, 0, 3] (lv' := [(0, .ref rM), (1, .int (bz (sp ∨ (∃ d, d < N ∧ th d = 1 ∧ lfS n sy d = c)))), (2, .int (nI (c + 1))), (3, .int (bz (∃ d, d < N ∧ th d = 1 ∧ lfS n sy d = c)))]) rfl ?_
                      refine r_goto (tgt := 44) C dX11_isGood_129 (by decide) ?_
                      refine r_lv [0, 1, 2] (lv' := [(0, .ref rM), (1, .int (bz (sp ∨ (∃ d, d < N ∧ th d = 1 ∧ lfS n sy d = c)))), (2, .int (nI (c + 1)))]) rfl ?_
                      exact ih44 (c + 1) (sp ∨ (∃ d, d < N ∧ th d = 1 ∧ lfS n sy d = c)) k g3 r1 hm44 hc1 (sp_add hsp h58 h77) (stE_put hg1 h77 p96_0) (by show k = _ + dI _; rw [dI_f (fun w => w.2.1 (emF_t (by rw [h58]; exact h77)))]; exact hk) hr1
                    · have h81 : ¬ (sp) := bz_0.mp h81
                      refine r_iload_n C dX11_isGood_84 3 rfl rfl ?_
                      refine r_if_eq (tgt := 92) C dX11_isGood_85 (by decide) (fun h85 => ?_) (fun h85 => ?_)
                      · have h85 : ¬ (∃ d, d < N ∧ th d = 1 ∧ lfS n sy d = c) := bz_0.mp h85
                        refine r_iconst C dX11_isGood_92 (v := nI 0) (by decide) ?_
                        refine r_top (y := bz (sp ∨ (∃ d, d < N ∧ th d = 1 ∧ lfS n sy d = c))) (bz_f (fun w => w.elim h81 h85)).symm ?_
                        refine r_istore_n C dX11_isGood_93 rfl (by decide) [1, 0, 2, 3] (lv' := [(0, .ref rM), (1, .int (bz (sp ∨ (∃ d, d < N ∧ th d = 1 ∧ lfS n sy d = c)))), (2, .int (nI c)), (3, .int (bz (∃ d, d < N ∧ th d = 1 ∧ lfS n sy d = c)))]) rfl ?_
                        refine r_aload_n C dX11_isGood_94 0 rfl rfl ?_
                        refine r_iload_n C dX11_isGood_95 2 rfl rfl ?_
                        refine r_callV0 (n := 1) (ws' := fun (u : (Nat → Option Nat)) => [(rM, .inr (12, [.int (nI tn), .int (nI n), .int (nI (n / 2)), .int (nI 2), .int (nI sy), .ref rTh, .int (nI ez), .int la, .int ma, .long ((drawW n N 200 x (te 1)).2.1), .ref rTe, .int (bz md), .ref rPu, .ref rWh, .ref rGi, .ref rDr, .ref rTr, .ref rKn, .ref rRo, .int (nI k), .int (nI sz), .ref rTx])), (rTh, .inl (X.1.2.1, 36, .inl (nO th))), (rTe, .inl (X.1.2.1, 7, .inl (nO (te4 te ((drawW n N 200 x (te 1)).2.2.1) (te 2) (te 3))))), (rGi, .inl (X.1.2.1, 36, .inl (eb u))), (rDr, .inl (X.1.2.1, 36, .inl (eb d9))), (rTr, .inl (X.1.2.1, 36, .inl (eb tr))), (rKn, .inl (X.1.2.1, 36, .inl (eb kn))), (rRo, .inl (X.1.2.1, 36, .inl (nO r1)))]) C dX11_isGood_96 (c_X11_takeOut (g := X.1) (l := X.2.2.1) (rM := rM) (rTh := rTh) (rTe := rTe) (rPu := rPu) (rWh := rWh) (rGi := rGi) (rDr := rDr) (rTr := rTr) (rKn := rKn) (rRo := rRo) (rTx := rTx) (tn := tn) (n := n) (N := N) (sy := sy) (ez := ez) (la := la) (ma := ma) (x := ((drawW n N 200 x (te 1)).2.1)) (md := md) (rws := k) (sz := sz) (gi := g1) (ls := c) (hn := (by first | assumption | omega)) (hsy := (by first | assumption | omega)) (hls := (by omega))) gX11_isGood_X11_takeOut rfl (by decide +kernel) rfl ⟨Nat.le_of_ble_eq_true rfl, Nat.le_of_ble_eq_true rfl⟩ ⟨rfl, rfl⟩ ⟨Nat.zero_le _, Nat.zero_le _⟩ (rest := []) rfl (Nat.le_of_ble_eq_true rfl) 0 rfl rfl [0, 3] (by decide) rfl (fun u => Eq.trans (b := [rM, rGi]) rfl rfl) (fun u => rfl) (fun v u hp => ?_)
                        obtain ⟨g3, rfl⟩ : ∃ z, z = u := ⟨_, rfl⟩
                        obtain ⟨rfl, p96_0⟩ := hp
                        show RW X 0 0 99 [(0, .ref rM), (1, .int (bz (sp ∨ (∃ d, d < N ∧ th d = 1 ∧ lfS n sy d = c)))), (2, .int (nI c)), (3, .int (bz (∃ d, d < N ∧ th d = 1 ∧ lfS n sy d = c)))] [] [(rM, .inr (12, [.int (nI tn), .int (nI n), .int (nI (n / 2)), .int (nI 2), .int (nI sy), .ref rTh, .int (nI ez), .int la, .int ma, .long ((drawW n N 200 x (te 1)).2.1), .ref rTe, .int (bz md), .ref rPu, .ref rWh, .ref rGi, .ref rDr, .ref rTr, .ref rKn, .ref rRo, .int (nI k), .int (nI sz), .ref rTx])), (rTh, .inl (X.1.2.1, 36, .inl (nO th))), (rTe, .inl (X.1.2.1, 7, .inl (nO (te4 te ((drawW n N 200 x (te 1)).2.2.1) (te 2) (te 3))))), (rGi, .inl (X.1.2.1, 36, .inl (eb g3))), (rDr, .inl (X.1.2.1, 36, .inl (eb d9))), (rTr, .inl (X.1.2.1, 36, .inl (eb tr))), (rKn, .inl (X.1.2.1, 36, .inl (eb kn))), (rRo, .inl (X.1.2.1, 36, .inl (nO r1)))]
                        refine r_goto (tgt := 126) C dX11_isGood_99 (by decide) ?_
                        refine r_iinc C dX11_isGood_126 2 rfl (v := nI (c + 1)) (nI_add _ _) (by decide) [1, 2, 0, 3] (lv' := [(0, .ref rM), (1, .int (bz (sp ∨ (∃ d, d < N ∧ th d = 1 ∧ lfS n sy d = c)))), (2, .int (nI (c + 1))), (3, .int (bz (∃ d, d < N ∧ th d = 1 ∧ lfS n sy d = c)))]) rfl ?_
                        refine r_goto (tgt := 44) C dX11_isGood_129 (by decide) ?_
                        refine r_lv [0, 1, 2] (lv' := [(0, .ref rM), (1, .int (bz (sp ∨ (∃ d, d < N ∧ th d = 1 ∧ lfS n sy d = c)))), (2, .int (nI (c + 1)))]) rfl ?_
                        exact ih44 (c + 1) (sp ∨ (∃ d, d < N ∧ th d = 1 ∧ lfS n sy d = c)) k g3 r1 hm44 hc1 (sp_add hsp h58 h77) (stE_put hg1 h77 p96_0) (by show k = _ + dI _; rw [dI_f (fun w => w.2.1 (emF_t (by rw [h58]; exact h77)))]; exact hk) hr1
                      · have h85 : ∃ d, d < N ∧ th d = 1 ∧ lfS n sy d = c := bz_n0.mp h85
                        refine r_iconst C dX11_isGood_88 (v := nI 1) (by decide) ?_
                        refine r_goto (tgt := 93) C dX11_isGood_89 (by decide) ?_
                        refine r_top (y := bz (sp ∨ (∃ d, d < N ∧ th d = 1 ∧ lfS n sy d = c))) (bz_t (Or.inr h85)).symm ?_
                        refine r_istore_n C dX11_isGood_93 rfl (by decide) [1, 0, 2, 3] (lv' := [(0, .ref rM), (1, .int (bz (sp ∨ (∃ d, d < N ∧ th d = 1 ∧ lfS n sy d = c)))), (2, .int (nI c)), (3, .int (bz (∃ d, d < N ∧ th d = 1 ∧ lfS n sy d = c)))]) rfl ?_
                        refine r_aload_n C dX11_isGood_94 0 rfl rfl ?_
                        refine r_iload_n C dX11_isGood_95 2 rfl rfl ?_
                        refine r_callV0 (n := 1) (ws' := fun (u : (Nat → Option Nat)) => [(rM, .inr (12, [.int (nI tn), .int (nI n), .int (nI (n / 2)), .int (nI 2), .int (nI sy), .ref rTh, .int (nI ez), .int la, .int ma, .long ((drawW n N 200 x (te 1)).2.1), .ref rTe, .int (bz md), .ref rPu, .ref rWh, .ref rGi, .ref rDr, .ref rTr, .ref rKn, .ref rRo, .int (nI k), .int (nI sz), .ref rTx])), (rTh, .inl (X.1.2.1, 36, .inl (nO th))), (rTe, .inl (X.1.2.1, 7, .inl (nO (te4 te ((drawW n N 200 x (te 1)).2.2.1) (te 2) (te 3))))), (rGi, .inl (X.1.2.1, 36, .inl (eb u))), (rDr, .inl (X.1.2.1, 36, .inl (eb d9))), (rTr, .inl (X.1.2.1, 36, .inl (eb tr))), (rKn, .inl (X.1.2.1, 36, .inl (eb kn))), (rRo, .inl (X.1.2.1, 36, .inl (nO r1)))]) C dX11_isGood_96 (c_X11_takeOut (g := X.1) (l := X.2.2.1) (rM := rM) (rTh := rTh) (rTe := rTe) (rPu := rPu) (rWh := rWh) (rGi := rGi) (rDr := rDr) (rTr := rTr) (rKn := rKn) (rRo := rRo) (rTx := rTx) (tn := tn) (n := n) (N := N) (sy := sy) (ez := ez) (la := la) (ma := ma) (x := ((drawW n N 200 x (te 1)).2.1)) (md := md) (rws := k) (sz := sz) (gi := g1) (ls := c) (hn := (by first | assumption | omega)) (hsy := (by first | assumption | omega)) (hls := (by omega))) gX11_isGood_X11_takeOut rfl (by decide +kernel) rfl ⟨Nat.le_of_ble_eq_true rfl, Nat.le_of_ble_eq_true rfl⟩ ⟨rfl, rfl⟩ ⟨Nat.zero_le _, Nat.zero_le _⟩ (rest := []) rfl (Nat.le_of_ble_eq_true rfl) 0 rfl rfl [0, 3] (by decide) rfl (fun u => Eq.trans (b := [rM, rGi]) rfl rfl) (fun u => rfl) (fun v u hp => ?_)
                        obtain ⟨g3, rfl⟩ : ∃ z, z = u := ⟨_, rfl⟩
                        obtain ⟨rfl, p96_0⟩ := hp
                        show RW X 0 0 99 [(0, .ref rM), (1, .int (bz (sp ∨ (∃ d, d < N ∧ th d = 1 ∧ lfS n sy d = c)))), (2, .int (nI c)), (3, .int (bz (∃ d, d < N ∧ th d = 1 ∧ lfS n sy d = c)))] [] [(rM, .inr (12, [.int (nI tn), .int (nI n), .int (nI (n / 2)), .int (nI 2), .int (nI sy), .ref rTh, .int (nI ez), .int la, .int ma, .long ((drawW n N 200 x (te 1)).2.1), .ref rTe, .int (bz md), .ref rPu, .ref rWh, .ref rGi, .ref rDr, .ref rTr, .ref rKn, .ref rRo, .int (nI k), .int (nI sz), .ref rTx])), (rTh, .inl (X.1.2.1, 36, .inl (nO th))), (rTe, .inl (X.1.2.1, 7, .inl (nO (te4 te ((drawW n N 200 x (te 1)).2.2.1) (te 2) (te 3))))), (rGi, .inl (X.1.2.1, 36, .inl (eb g3))), (rDr, .inl (X.1.2.1, 36, .inl (eb d9))), (rTr, .inl (X.1.2.1, 36, .inl (eb tr))), (rKn, .inl (X.1.2.1, 36, .inl (eb kn))), (rRo, .inl (X.1.2.1, 36, .inl (nO r1)))]
                        refine r_goto (tgt := 126) C dX11_isGood_99 (by decide) ?_
                        refine r_iinc C dX11_isGood_126 2 rfl (v := nI (c + 1)) (nI_add _ _) (by decide) [1, 2, 0, 3] (lv' := [(0, .ref rM), (1, .int (bz (sp ∨ (∃ d, d < N ∧ th d = 1 ∧ lfS n sy d = c)))), (2, .int (nI (c + 1))), (3, .int (bz (∃ d, d < N ∧ th d = 1 ∧ lfS n sy d = c)))]) rfl ?_
                        refine r_goto (tgt := 44) C dX11_isGood_129 (by decide) ?_
                        refine r_lv [0, 1, 2] (lv' := [(0, .ref rM), (1, .int (bz (sp ∨ (∃ d, d < N ∧ th d = 1 ∧ lfS n sy d = c)))), (2, .int (nI (c + 1)))]) rfl ?_
                        exact ih44 (c + 1) (sp ∨ (∃ d, d < N ∧ th d = 1 ∧ lfS n sy d = c)) k g3 r1 hm44 hc1 (sp_add hsp h58 h77) (stE_put hg1 h77 p96_0) (by show k = _ + dI _; rw [dI_f (fun w => w.2.1 (emF_t (by rw [h58]; exact h77)))]; exact hk) hr1
                · have h58 : ¬ ((lfS n sy c) = c) := fun e9 => h58 ((nI_eq (by omega) (by omega)).mpr e9)
                  refine r_goto (tgt := 126) C dX11_isGood_61 (by decide) ?_
                  refine r_iinc C dX11_isGood_126 2 rfl (v := nI (c + 1)) (nI_add _ _) (by decide) [1, 2, 0] (lv' := [(0, .ref rM), (1, .int (bz sp)), (2, .int (nI (c + 1)))]) rfl ?_
                  refine r_goto (tgt := 44) C dX11_isGood_129 (by decide) ?_
                  exact ih44 (c + 1) sp k g1 r1 hm44 hc1 (hsp.trans (ex_skip (P := fun e => lfS n sy e = e ∧ (∃ d, d < N ∧ th d = 1 ∧ lfS n sy d = e) ∧ ∃ d, d < N ∧ th d = 2 ∧ lfS n sy d = e) (fun w => h58 w.1))) (by rw [hg1]; exact stE_skip (fun d q => lfS_id hn hsy q) (fun w => h58 w.1)) (by show k = _ + dI _; rw [dI_f (fun w => h58 w.1)]; exact hk) hr1
          exact L44 ((N - 0) + 1) 0 False 0 d9 ro (Nat.lt_succ_self _) (Nat.zero_le _) (⟨False.elim, fun ⟨e, q, _⟩ => absurd q (Nat.not_lt_zero e)⟩) stE_0.symm rfl (fun j q => absurd q (Nat.not_lt_zero j))
        · have h14 : ¬ (36 ≤ i) := fun e9 => h14 ((nI_leI (by omega) (by omega)).mpr e9)
          refine r_aload_n C dX11_isGood_17 0 rfl rfl ?_
          refine r_get C dX11_isGood_18 iX11_isGood_X11 14 fX11_isGood_27 0 rfl rfl (by decide) rfl ?_
          refine r_iload_n C dX11_isGood_21 1 rfl rfl ?_
          refine r_aload_n C dX11_isGood_22 0 rfl rfl ?_
          refine r_get C dX11_isGood_23 iX11_isGood_X11 15 fX11_isGood_30 0 rfl rfl (by decide) rfl ?_
          refine r_iload_n C dX11_isGood_26 1 rfl rfl ?_
          refine r_iald C dX11_isGood_27 4 rfl (by omega) (by omega) ?_
          refine r_iast C dX11_isGood_28 3 rfl (by omega) (by omega) (ws' := [(rM, .inr (12, [.int (nI tn), .int (nI n), .int (nI (n / 2)), .int (nI 2), .int (nI sy), .ref rTh, .int (nI ez), .int la, .int ma, .long ((drawW n N 200 x (te 1)).2.1), .ref rTe, .int (bz md), .ref rPu, .ref rWh, .ref rGi, .ref rDr, .ref rTr, .ref rKn, .ref rRo, .int (nI rws), .int (nI sz), .ref rTx])), (rTh, .inl (X.1.2.1, 36, .inl (nO th))), (rTe, .inl (X.1.2.1, 7, .inl (nO (te4 te ((drawW n N 200 x (te 1)).2.2.1) (te 2) (te 3))))), (rGi, .inl (X.1.2.1, 36, .inl (upd (eb g1) i ((eb d9) i)))), (rDr, .inl (X.1.2.1, 36, .inl (eb d9))), (rTr, .inl (X.1.2.1, 36, .inl (eb tr))), (rKn, .inl (X.1.2.1, 36, .inl (eb kn))), (rRo, .inl (X.1.2.1, 36, .inl (nO ro)))]) rfl ?_
          rw [eb_u]
          show RW X 0 0 29 [(0, .ref rM), (1, .int (nI i))] [] [(rM, .inr (12, [.int (nI tn), .int (nI n), .int (nI (n / 2)), .int (nI 2), .int (nI sy), .ref rTh, .int (nI ez), .int la, .int ma, .long ((drawW n N 200 x (te 1)).2.1), .ref rTe, .int (bz md), .ref rPu, .ref rWh, .ref rGi, .ref rDr, .ref rTr, .ref rKn, .ref rRo, .int (nI rws), .int (nI sz), .ref rTx])), (rTh, .inl (X.1.2.1, 36, .inl (nO th))), (rTe, .inl (X.1.2.1, 7, .inl (nO (te4 te ((drawW n N 200 x (te 1)).2.2.1) (te 2) (te 3))))), (rGi, .inl (X.1.2.1, 36, .inl (eb (ub g1 i (d9 i))))), (rDr, .inl (X.1.2.1, 36, .inl (eb d9))), (rTr, .inl (X.1.2.1, 36, .inl (eb tr))), (rKn, .inl (X.1.2.1, 36, .inl (eb kn))), (rRo, .inl (X.1.2.1, 36, .inl (nO ro)))]
          refine r_iinc C dX11_isGood_29 1 rfl (v := nI (i + 1)) (nI_add _ _) (by decide) [1, 0] (lv' := [(0, .ref rM), (1, .int (nI (i + 1)))]) rfl ?_
          refine r_goto (tgt := 11) C dX11_isGood_32 (by decide) ?_
          exact ih11 (i + 1) (ub g1 i (d9 i)) (by omega) (by omega) (all_S (fun c q => by rw [ub_n (by omega)]; exact hg1 c q) ub_s)
    exact L11 ((36 - 0) + 1) 0 gi (Nat.lt_succ_self _) (Nat.zero_le _) (fun c q => absurd q (Nat.not_lt_zero c))
  · have h4 : ¬ ((drawW n N 200 x (te 1)).1 = true) := bz_0.mp h4
    refine r_iconst C dX11_isGood_7 (v := nI 0) (by decide) ?_
    have hT : tryF n N (lfS n sy) th ez la ma x (te 1) (te 2) (te 3) = _ := tryF_f (fun w => h4 w.1)
    rw [hT] at hret
    refine r_top (y := bz False) ((bz_f id).symm) ?_
    exact hret _ _ _ (gi, d9, tr, kn, ro, rws) ⟨rfl, False.elim, hvg, hvt⟩ (Or.inr ⟨_, rfl, dX11_isGood_8, Or.inr ⟨rfl, bz_01 _⟩⟩)
