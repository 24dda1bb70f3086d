theorem te_0 (te : Nat → Nat) : nO te = nO (uO te 1 (te 1 + 0)) := by
  funext j
  by_cases e : j = 1
  · subst e; simp [nO, uO]
  · simp [nO, uO, e]
theorem te_S {te : Nat → Nat} {r : Nat} : upd (nO (uO te 1 (te 1 + r))) 1 (nI (uO te 1 (te 1 + r) 1 + 1)) = nO (uO te 1 (te 1 + (r + 1))) := by
  funext j
  by_cases e : j = 1
  · subst e; simp [upd, nO, uO]; rfl
  · simp [upd, nO, uO, e]
theorem fil_ex {N : Nat} {b : Nat → Option Nat} (h : fil N b < N) : ∃ c, c < N ∧ b c = none := by
  obtain ⟨c, q1, q2⟩ := cn_ex (P := fun c => b c ≠ none) (N := N) h
  exact ⟨c, q1, Classical.byContradiction q2⟩
def tiR (n N : Nat) (b : Nat → Option Nat) (i : Nat) (ob : Option Nat) (fw : Nat) : Prop := (ob = none ∧ fw = n + 1 ∧ ∀ d, d < i → b d ≠ none) ∨ ∃ be, ob = some be ∧ be < i ∧ b be = none ∧ fw = wy n N b be ∧ (∀ d, d < i → b d = none → fw ≤ wy n N b d) ∧ ∀ d, d < be → b d = none → fw < wy n N b d
theorem tiR_full {n N i fw : Nat} {ob : Option Nat} {b : Nat → Option Nat} (h : tiR n N b i ob fw) (hb : b i ≠ none) : tiR n N b (i + 1) ob fw := by
  rcases h with ⟨h1, h2, h3⟩ | ⟨be, h0, h1, h2, h3, h4, h5⟩
  · exact Or.inl ⟨h1, h2, all_S h3 hb⟩
  · exact Or.inr ⟨be, h0, by omega, h2, h3, all_S h4 (fun e => absurd e hb), h5⟩
theorem tiR_old {n N i fw : Nat} {ob : Option Nat} {b : Nat → Option Nat} (hn : (n = 4 ∧ N = 16) ∨ (n = 6 ∧ N = 36)) (h : tiR n N b i ob fw) (hw : fw ≤ wy n N b i) : tiR n N b (i + 1) ob fw := by
  rcases h with ⟨h1, h2, h3⟩ | ⟨be, h0, h1, h2, h3, h4, h5⟩
  · have := cn_le (P := mayP n N b i) n
    rw [← wy_cn hn] at this
    omega
  · exact Or.inr ⟨be, h0, by omega, h2, h3, all_S h4 (fun _ => hw), h5⟩
theorem tiR_new {n N i fw : Nat} {ob : Option Nat} {b : Nat → Option Nat} (h : tiR n N b i ob fw) (hb : b i = none) (hw : wy n N b i < fw) : tiR n N b (i + 1) (some i) (wy n N b i) := by
  have k : ∀ d, d < i → b d = none → wy n N b i < wy n N b d := by
    rcases h with ⟨h1, h2, h3⟩ | ⟨be, h0, h1, h2, h3, h4, h5⟩
    · exact fun d q e => absurd e (h3 d q)
    · exact fun d q e => by have := h4 d q e; omega
  exact Or.inr ⟨i, rfl, by omega, hb, rfl, all_S (fun d q e => Nat.le_of_lt (k d q e)) (fun _ => Nat.le_refl _), k⟩
theorem tiR_end {n N fw : Nat} {ob : Option Nat} {b : Nat → Option Nat} (h : tiR n N b N ob fw) (hx : ∃ c, c < N ∧ b c = none) : ∃ be, ob = some be ∧ isBest n N b be ∧ fw = wy n N b be := by
  rcases h with ⟨h1, h2, h3⟩ | ⟨be, h0, h1, h2, h3, h4, h5⟩
  · obtain ⟨c, q1, q2⟩ := hx
    exact absurd q2 (h3 c q1)
  · exact ⟨be, h0, ⟨h1, h2, fun d q e => by rw [← h3]; exact h4 d q e, fun d q e => by rw [← h3]; exact h5 d q e⟩, h3⟩
noncomputable def drwC (n N k f : Nat) (x : Int64) (b : Nat → Option Nat) (t : Nat) : Bool × Int64 × Nat × (Nat → Option Nat) := @ite _ ((drawF n N (N - f) x b).1 = true) (Classical.propDecidable _) (true, (drawF n N (N - f) x b).2.1, t, (drawF n N (N - f) x b).2.2) (drawW n N k (drawF n N (N - f) x b).2.1 (t + 1))
theorem drawW_C {n N : Nat} {x : Int64} {t : Nat} (k : Nat) : drawW n N (k + 1) x t = drwC n N k 0 x (fun _ => none) t := rfl
theorem drwC_t {n N k f t : Nat} {x : Int64} {b : Nat → Option Nat} (h : N - f = 0) : drwC n N k f x b t = (true, x, t, b) := by
  unfold drwC; rw [h]; rw [if_pos (show (drawF n N 0 x b).1 = true from rfl)]; rfl
theorem drwC_f {n N k f t j be : Nat} {x : Int64} {b : Nat → Option Nat} (hk : k = 0) (h : N - f = j + 1) (hb : isBest n N b be) (hw : wy n N b be = 0) : drwC n N k f x b t = (false, x, t + 1, fun _ => none) := by
  unfold drwC; rw [h, drawF_0 hb hw, hk, if_neg (by simp)]; rfl
theorem drwC_r {n N k f t j i be : Nat} {x : Int64} {b : Nat → Option Nat} (hk : k = i + 1) (h : N - f = j + 1) (hb : isBest n N b be) (hw : wy n N b be = 0) : drwC n N k f x b t = drwC n N i 0 x (fun _ => none) (t + 1) := by
  unfold drwC; rw [h, drawF_0 hb hw, hk, if_neg (by simp)]; rfl
abbrev hbn (x : Int64) : Nat := hb (nx x)
theorem drwC_s {n N k f t be v : Nat} {x : Int64} {b : Nat → Option Nat} (h : N - f = (N - (f + 1)) + 1) (hb : isBest n N b be) (hw : ¬ wy n N b be = 0) (hm : mayP n N b be v) (hc : cn (mayP n N b be) v = hbn x % wy n N b be) : drwC n N k f x b t = drwC n N k (f + 1) (nx x) (ub b be (some v)) t := by
  unfold drwC; rw [h, drawF_s hb hw hm hc]
theorem fX11_draw_45 : Cond.fieldLink RX11 45 (TX11 1).1 (TX11 1).2.1 (TX11 1).2.2.1 ∈ wsX11_draw := List.mem_of_getElem? (i := 1) rfl
theorem iX11_draw_X11 : ∀ w ∈ wsX110, w ∈ wsX11_draw := by decide +kernel
theorem fX11_draw_30 : Cond.fieldLink RX11 30 (TX11 15).1 (TX11 15).2.1 (TX11 15).2.2.1 ∈ wsX11_draw := List.mem_of_getElem? (i := 2) rfl
theorem fX11_draw_18 : Cond.fieldLink RX11 18 (TX11 10).1 (TX11 10).2.1 (TX11 10).2.2.1 ∈ wsX11_draw := List.mem_of_getElem? (i := 3) rfl
set_option maxHeartbeats 4000000 in
set_option maxRecDepth 100000 in
theorem c_X11_draw {g : ww_G} {l : Launch} {rM : Nat} {rTh : Nat} {rTe : Nat} {rPu : Nat} {rWh : Nat} {rGi : Nat} {rDr : Nat} {rTr : Nat} {rKn : Nat} {rRo : Nat} {rTx : Nat} {tn : Nat} {n : Nat} {N : Nat} {sy : Nat} {ez : Nat} {la : Int32} {ma : Int32} {x : Int64} {md : Prop} {rws : Nat} {sz : Nat} {te : Nat → Nat} {dr : Nat → Int32} (hn : (n = 4 ∧ N = 16) ∨ (n = 6 ∧ N = 36)) : CT g l yX11_draw wsX11_draw (ww_rm 4) [.ref rM] ([(rM, .inr (12, [.int (nI tn), .int (nI n), .int (nI (n / 2)), .int (nI 2), .int (nI sy), .ref rTh, .int (nI ez), .int la, .int ma, .long x, .ref rTe, .int (bz md), .ref rPu, .ref rWh, .ref rGi, .ref rDr, .ref rTr, .ref rKn, .ref rRo, .int (nI rws), .int (nI sz), .ref rTx])), (rTe, .inl (g.2.1, 7, .inl (nO te))), (rDr, .inl (g.2.1, 36, .inl dr))]) (S := (Nat → Option Nat)) (fun vv9 u => vv9 = some (.int (bz ((drawW n N 200 x (te 1)).1 = true))) ∧ ((drawW n N 200 x (te 1)).1 = true → u = (drawW n N 200 x (te 1)).2.2.2)) (fun u => [(rM, .inr (12, [.int (nI tn), .int (nI n), .int (nI (n / 2)), .int (nI 2), .int (nI sy), .ref rTh, .int (nI ez), .int la, .int ma, .long ((drawW n N 200 x (te 1)).2.1), .ref rTe, .int (bz md), .ref rPu, .ref rWh, .ref rGi, .ref rDr, .ref rTr, .ref rKn, .ref rRo, .int (nI rws), .int (nI sz), .ref rTx])), (rTe, .inl (g.2.1, 7, .inl (nO (uO te 1 (drawW n N 200 x (te 1)).2.2.1)))), (rDr, .inl (g.2.1, 36, .inl (eb u)))]) := by
  refine CT.of cX11_draw 7 (some .boolean) RX11 (by decide +kernel) rfl rfl (Nat.le_of_ble_eq_true rfl) ?_
  intro X hg hl C hret
  subst hg; subst hl
  show RW X 0 0 0 [(0, .ref rM)] [] [(rM, .inr (12, [.int (nI tn), .int (nI n), .int (nI (n / 2)), .int (nI 2), .int (nI sy), .ref rTh, .int (nI ez), .int la, .int ma, .long x, .ref rTe, .int (bz md), .ref rPu, .ref rWh, .ref rGi, .ref rDr, .ref rTr, .ref rKn, .ref rRo, .int (nI rws), .int (nI sz), .ref rTx])), (rTe, .inl (X.1.2.1, 7, .inl (nO te))), (rDr, .inl (X.1.2.1, 36, .inl dr))]
  refine r_iconst C dX11_draw_0 (v := nI 0) (by decide) ?_
  refine r_istore_n C dX11_draw_1 rfl (by decide) [1, 0] (lv' := [(0, .ref rM), (1, .int (nI 0))]) rfl ?_
  refine r_iconst C dX11_draw_2 (v := nI 0) (by decide) ?_
  refine r_istore_n C dX11_draw_3 rfl (by decide) [1, 2, 0] (lv' := [(0, .ref rM), (1, .int (nI 0)), (2, .int (nI 0))]) rfl ?_
  refine r_aload_n C dX11_draw_4 0 rfl rfl ?_
  refine r_callV0 (n := 0) (ws' := fun (u : Unit) => [(rM, .inr (12, [.int (nI tn), .int (nI n), .int (nI (n / 2)), .int (nI 2), .int (nI sy), .ref rTh, .int (nI ez), .int la, .int ma, .long x, .ref rTe, .int (bz md), .ref rPu, .ref rWh, .ref rGi, .ref rDr, .ref rTr, .ref rKn, .ref rRo, .int (nI rws), .int (nI sz), .ref rTx])), (rTe, .inl (X.1.2.1, 7, .inl (nO te))), (rDr, .inl (X.1.2.1, 36, .inl (eb (fun _ => none))))]) C dX11_draw_5 (c_X11_empty (g := X.1) (l := X.2.2.1) (rM := rM) (rTh := rTh) (rTe := rTe) (rPu := rPu) (rWh := rWh) (rGi := rGi) (rDr := rDr) (rTr := rTr) (rKn := rKn) (rRo := rRo) (rTx := rTx) (tn := tn) (n := n) (N := N) (sy := sy) (ez := ez) (la := la) (ma := ma) (x := x) (md := md) (rws := rws) (sz := sz) (dr := dr) ) gX11_draw_X11_empty rfl (by decide +kernel) rfl ⟨Nat.le_of_ble_eq_true rfl, Nat.le_of_ble_eq_true rfl⟩ ⟨rfl, rfl⟩ ⟨Nat.zero_le _, Nat.zero_le _⟩ (rest := []) rfl (Nat.le_of_ble_eq_true rfl) 0 rfl rfl [0, 2] (by decide) rfl (fun u => Eq.trans (b := [rM, rDr]) rfl rfl) (fun u => rfl) (fun v u hp => ?_)
  obtain rfl := hp
  show RW X 0 0 8 [(0, .ref rM), (1, .int (nI 0)), (2, .int (nI 0))] [] [(rM, .inr (12, [.int (nI tn), .int (nI n), .int (nI (n / 2)), .int (nI 2), .int (nI sy), .ref rTh, .int (nI ez), .int la, .int ma, .long x, .ref rTe, .int (bz md), .ref rPu, .ref rWh, .ref rGi, .ref rDr, .ref rTr, .ref rKn, .ref rRo, .int (nI rws), .int (nI sz), .ref rTx])), (rTe, .inl (X.1.2.1, 7, .inl (nO te))), (rDr, .inl (X.1.2.1, 36, .inl (eb (fun _ => none))))]
  rw [te_0 te]
  have L8 : ∀ (d8 : Nat) (r : Nat) (f : Nat) (x1 : Int64) (b1 : Nat → Option Nat), ((199 - r) * 37 + (N - f)) < d8 → (r < 200) → (f ≤ N) → (drawW n N 200 x (te 1) = drwC n N (199 - r) f x1 b1 (te 1 + r)) → (okB n N b1) → (fil N b1 = f) → (∀ c, N ≤ c → b1 c = none) → RW X 0 0 8 [(0, .ref rM), (1, .int (nI r)), (2, .int (nI f))] [] [(rM, .inr (12, [.int (nI tn), .int (nI n), .int (nI (n / 2)), .int (nI 2), .int (nI sy), .ref rTh, .int (nI ez), .int la, .int ma, .long x1, .ref rTe, .int (bz md), .ref rPu, .ref rWh, .ref rGi, .ref rDr, .ref rTr, .ref rKn, .ref rRo, .int (nI rws), .int (nI sz), .ref rTx])), (rTe, .inl (X.1.2.1, 7, .inl (nO (uO te 1 (te 1 + r))))), (rDr, .inl (X.1.2.1, 36, .inl (eb b1)))] := by
    intro d8
    induction d8 with
    | zero => intro r f x1 b1 hd8; exact absurd hd8 (Nat.not_lt_zero _)
    | succ d8 ih8 =>
      intro r f x1 b1 hd8 hr hf hF hok hfil hzz
      refine r_iload_n C dX11_draw_8 2 rfl rfl ?_
      refine r_aload_n C dX11_draw_9 0 rfl rfl ?_
      refine r_callV0 (n := 0) (ws' := fun (u : Unit) => [(rM, .inr (12, [.int (nI tn), .int (nI n), .int (nI (n / 2)), .int (nI 2), .int (nI sy), .ref rTh, .int (nI ez), .int la, .int ma, .long x1, .ref rTe, .int (bz md), .ref rPu, .ref rWh, .ref rGi, .ref rDr, .ref rTr, .ref rKn, .ref rRo, .int (nI rws), .int (nI sz), .ref rTx])), (rTe, .inl (X.1.2.1, 7, .inl (nO (uO te 1 (te 1 + r))))), (rDr, .inl (X.1.2.1, 36, .inl (eb b1)))]) C dX11_draw_10 (c_X11_cells (g := X.1) (l := X.2.2.1) (rM := rM) (rTh := rTh) (rTe := rTe) (rPu := rPu) (rWh := rWh) (rGi := rGi) (rDr := rDr) (rTr := rTr) (rKn := rKn) (rRo := rRo) (rTx := rTx) (tn := tn) (n := n) (N := N) (sy := sy) (ez := ez) (la := la) (ma := ma) (x := x1) (md := md) (rws := rws) (sz := sz) (hn := (by first | assumption | omega))) gX11_draw_X11_cells rfl (by decide +kernel) rfl ⟨Nat.le_of_ble_eq_true rfl, Nat.le_of_ble_eq_true rfl⟩ ⟨rfl, rfl⟩ ⟨Nat.zero_le _, Nat.zero_le _⟩ (rest := [.int (nI f)]) rfl (Nat.le_of_ble_eq_true rfl) 0 rfl rfl [0] (by decide) rfl (fun u => Eq.trans (b := [rM]) rfl rfl) (fun u => rfl) (fun v u hp => ?_)
      obtain rfl := hp
      show RW X 0 0 13 [(0, .ref rM), (1, .int (nI r)), (2, .int (nI f))] [.int (nI N), .int (nI f)] [(rM, .inr (12, [.int (nI tn), .int (nI n), .int (nI (n / 2)), .int (nI 2), .int (nI sy), .ref rTh, .int (nI ez), .int la, .int ma, .long x1, .ref rTe, .int (bz md), .ref rPu, .ref rWh, .ref rGi, .ref rDr, .ref rTr, .ref rKn, .ref rRo, .int (nI rws), .int (nI sz), .ref rTx])), (rTe, .inl (X.1.2.1, 7, .inl (nO (uO te 1 (te 1 + r))))), (rDr, .inl (X.1.2.1, 36, .inl (eb b1)))]
      refine r_icmp_ge (tgt := 181) C dX11_draw_13 (by decide) (fun h13 => ?_) (fun h13 => ?_)
      · have h13 : N ≤ f := (nI_leI (by omega) (by omega)).mp h13
        refine r_iconst C dX11_draw_181 (v := nI 1) (by decide) ?_
        have hF0 : drawW n N 200 x (te 1) = (true, x1, te 1 + r, b1) := by
          rw [hF]; exact drwC_t (show N - f = 0 by omega)
        rw [hF0] at hret
        refine r_top (y := bz (true = true)) ((bz_t rfl).symm) ?_
        exact hret _ _ _ (b1) ⟨rfl, fun _ => rfl⟩ (Or.inr ⟨_, rfl, dX11_draw_182, Or.inr ⟨rfl, bz_01 _⟩⟩)
      · have h13 : ¬ (N ≤ f) := fun e9 => h13 ((nI_leI (by omega) (by omega)).mpr e9)
        refine r_iconst C dX11_draw_16 (v := eo none) (show Int32.ofInt (-1) = (-1 : Int32) by decide) ?_
        refine r_istore_n C dX11_draw_17 rfl (by decide) [1, 2, 3, 0] (lv' := [(0, .ref rM), (1, .int (nI r)), (2, .int (nI f)), (3, .int (eo none))]) rfl ?_
        refine r_aload_n C dX11_draw_18 0 rfl rfl ?_
        refine r_get C dX11_draw_19 iX11_draw_X11 1 fX11_draw_45 0 rfl rfl (by decide) rfl ?_
        refine r_iconst C dX11_draw_22 (v := nI 1) (by decide) ?_
        refine r_iadd C dX11_draw_23 (v := nI (n + 1)) (nI_add _ _) ?_
        refine r_istore C dX11_draw_24 (by decide) [1, 2, 3, 4, 0] (lv' := [(0, .ref rM), (1, .int (nI r)), (2, .int (nI f)), (3, .int (eo none)), (4, .int (nI (n + 1)))]) rfl ?_
        refine r_iconst C dX11_draw_26 (v := nI 0) (by decide) ?_
        refine r_istore C dX11_draw_27 (by decide) [1, 2, 3, 4, 5, 0] (lv' := [(0, .ref rM), (1, .int (nI r)), (2, .int (nI f)), (3, .int (eo none)), (4, .int (nI (n + 1))), (5, .int (nI 0))]) rfl ?_
        have L29 : ∀ (d29 : Nat) (ob : Option Nat) (fw : Nat) (i : Nat), (N - i) < d29 → (i ≤ N) → (fw ≤ 7) → (tiR n N b1 i ob fw) → RW X 0 0 29 [(0, .ref rM), (1, .int (nI r)), (2, .int (nI f)), (3, .int (eo ob)), (4, .int (nI fw)), (5, .int (nI i))] [] [(rM, .inr (12, [.int (nI tn), .int (nI n), .int (nI (n / 2)), .int (nI 2), .int (nI sy), .ref rTh, .int (nI ez), .int la, .int ma, .long x1, .ref rTe, .int (bz md), .ref rPu, .ref rWh, .ref rGi, .ref rDr, .ref rTr, .ref rKn, .ref rRo, .int (nI rws), .int (nI sz), .ref rTx])), (rTe, .inl (X.1.2.1, 7, .inl (nO (uO te 1 (te 1 + r))))), (rDr, .inl (X.1.2.1, 36, .inl (eb b1)))] := by
          intro d29
          induction d29 with
          | zero => intro ob fw i hd29; exact absurd hd29 (Nat.not_lt_zero _)
          | succ d29 ih29 =>
            intro ob fw i hd29 hi hfw hti
            refine r_iload C dX11_draw_29 5 rfl ?_
            refine r_aload_n C dX11_draw_31 0 rfl rfl ?_
            refine r_callV0 (n := 0) (ws' := fun (u : Unit) => [(rM, .inr (12, [.int (nI tn), .int (nI n), .int (nI (n / 2)), .int (nI 2), .int (nI sy), .ref rTh, .int (nI ez), .int la, .int ma, .long x1, .ref rTe, .int (bz md), .ref rPu, .ref rWh, .ref rGi, .ref rDr, .ref rTr, .ref rKn, .ref rRo, .int (nI rws), .int (nI sz), .ref rTx])), (rTe, .inl (X.1.2.1, 7, .inl (nO (uO te 1 (te 1 + r))))), (rDr, .inl (X.1.2.1, 36, .inl (eb b1)))]) C dX11_draw_32 (c_X11_cells (g := X.1) (l := X.2.2.1) (rM := rM) (rTh := rTh) (rTe := rTe) (rPu := rPu) (rWh := rWh) (rGi := rGi) (rDr := rDr) (rTr := rTr) (rKn := rKn) (rRo := rRo) (rTx := rTx) (tn := tn) (n := n) (N := N) (sy := sy) (ez := ez) (la := la) (ma := ma) (x := x1) (md := md) (rws := rws) (sz := sz) (hn := (by first | assumption | omega))) gX11_draw_X11_cells rfl (by decide +kernel) rfl ⟨Nat.le_of_ble_eq_true rfl, Nat.le_of_ble_eq_true rfl⟩ ⟨rfl, rfl⟩ ⟨Nat.zero_le _, Nat.zero_le _⟩ (rest := [.int (nI i)]) rfl (Nat.le_of_ble_eq_true rfl) 0 rfl rfl [0] (by decide) rfl (fun u => Eq.trans (b := [rM]) rfl rfl) (fun u => rfl) (fun v u hp => ?_)
            obtain rfl := hp
            show RW X 0 0 35 [(0, .ref rM), (1, .int (nI r)), (2, .int (nI f)), (3, .int (eo ob)), (4, .int (nI fw)), (5, .int (nI i))] [.int (nI N), .int (nI i)] [(rM, .inr (12, [.int (nI tn), .int (nI n), .int (nI (n / 2)), .int (nI 2), .int (nI sy), .ref rTh, .int (nI ez), .int la, .int ma, .long x1, .ref rTe, .int (bz md), .ref rPu, .ref rWh, .ref rGi, .ref rDr, .ref rTr, .ref rKn, .ref rRo, .int (nI rws), .int (nI sz), .ref rTx])), (rTe, .inl (X.1.2.1, 7, .inl (nO (uO te 1 (te 1 + r))))), (rDr, .inl (X.1.2.1, 36, .inl (eb b1)))]
            refine r_icmp_ge (tgt := 79) C dX11_draw_35 (by decide) (fun h35 => ?_) (fun h35 => ?_)
            · have h35 : N ≤ i := (nI_leI (by omega) (by omega)).mp h35
              have hti2 : tiR n N b1 N ob fw := by
                have e : i = N := by omega
                rw [e] at hti; exact hti
              obtain ⟨be, hbe, hbest, hfw⟩ := tiR_end hti2 (fil_ex (show fil N b1 < N by omega))
              subst hbe
              subst hfw
              have hwl := wy_le n N b1 be
              have hbeN := hbest.1
              show RW X 0 0 79 [(0, .ref rM), (1, .int (nI r)), (2, .int (nI f)), (3, .int (nI be)), (4, .int (nI (wy n N b1 be))), (5, .int (nI i))] [] [(rM, .inr (12, [.int (nI tn), .int (nI n), .int (nI (n / 2)), .int (nI 2), .int (nI sy), .ref rTh, .int (nI ez), .int la, .int ma, .long x1, .ref rTe, .int (bz md), .ref rPu, .ref rWh, .ref rGi, .ref rDr, .ref rTr, .ref rKn, .ref rRo, .int (nI rws), .int (nI sz), .ref rTx])), (rTe, .inl (X.1.2.1, 7, .inl (nO (uO te 1 (te 1 + r))))), (rDr, .inl (X.1.2.1, 36, .inl (eb b1)))]
              refine r_iload C dX11_draw_79 4 rfl ?_
              refine r_if_ne (tgt := 115) C dX11_draw_81 (by decide) (fun h81 => ?_) (fun h81 => ?_)
              · have h81 : ¬ ((wy n N b1 be) = 0) := fun e9 => h81 ((nI_eq (b := 0) (by omega) (by omega)).mpr e9)
                refine r_aload_n C dX11_draw_115 0 rfl rfl ?_
                refine r_iload C dX11_draw_116 4 rfl ?_
                refine r_callV0 (n := 1) (ws' := fun (u : Unit) => [(rM, .inr (12, [.int (nI tn), .int (nI n), .int (nI (n / 2)), .int (nI 2), .int (nI sy), .ref rTh, .int (nI ez), .int la, .int ma, .long (nx x1), .ref rTe, .int (bz md), .ref rPu, .ref rWh, .ref rGi, .ref rDr, .ref rTr, .ref rKn, .ref rRo, .int (nI rws), .int (nI sz), .ref rTx])), (rTe, .inl (X.1.2.1, 7, .inl (nO (uO te 1 (te 1 + r))))), (rDr, .inl (X.1.2.1, 36, .inl (eb b1)))]) C dX11_draw_118 (c_X11_below (g := X.1) (l := X.2.2.1) (rM := rM) (rTh := rTh) (rTe := rTe) (rPu := rPu) (rWh := rWh) (rGi := rGi) (rDr := rDr) (rTr := rTr) (rKn := rKn) (rRo := rRo) (rTx := rTx) (tn := tn) (n := n) (N := N) (sy := sy) (ez := ez) (la := la) (ma := ma) (x := x1) (md := md) (rws := rws) (sz := sz) (k := (wy n N b1 be)) (hk := (by omega)) (hk2 := (by omega))) gX11_draw_X11_below rfl (by decide +kernel) rfl ⟨Nat.le_of_ble_eq_true rfl, Nat.le_of_ble_eq_true rfl⟩ ⟨rfl, rfl⟩ ⟨Nat.zero_le _, Nat.zero_le _⟩ (rest := []) rfl (Nat.le_of_ble_eq_true rfl) 0 rfl rfl [0] (by decide) rfl (fun u => Eq.trans (b := [rM]) rfl rfl) (fun u => rfl) (fun v u hp => ?_)
                obtain rfl := hp
                show RW X 0 0 121 [(0, .ref rM), (1, .int (nI r)), (2, .int (nI f)), (3, .int (nI be)), (4, .int (nI (wy n N b1 be))), (5, .int (nI i))] [.int (nI (hb (nx x1) % (wy n N b1 be)))] [(rM, .inr (12, [.int (nI tn), .int (nI n), .int (nI (n / 2)), .int (nI 2), .int (nI sy), .ref rTh, .int (nI ez), .int la, .int ma, .long (nx x1), .ref rTe, .int (bz md), .ref rPu, .ref rWh, .ref rGi, .ref rDr, .ref rTr, .ref rKn, .ref rRo, .int (nI rws), .int (nI sz), .ref rTx])), (rTe, .inl (X.1.2.1, 7, .inl (nO (uO te 1 (te 1 + r))))), (rDr, .inl (X.1.2.1, 36, .inl (eb b1)))]
                have hlt : hb (nx x1) % wy n N b1 be < cn (mayP n N b1 be) n := by rw [← wy_cn hn]; exact Nat.mod_lt _ (by omega)
                have hT := kthV_lt (P := mayP n N b1 be) (N := n) hlt
                have hcl := cn_le (P := mayP n N b1 be) n
                refine r_istore C dX11_draw_121 (by decide) [1, 2, 3, 4, 5, 0] (lv' := [(0, .ref rM), (1, .int (nI r)), (2, .int (nI f)), (3, .int (nI be)), (4, .int (nI (wy n N b1 be))), (5, .int (nI (hb (nx x1) % (wy n N b1 be))))]) rfl ?_
                refine r_iconst C dX11_draw_123 (v := nI 0) (by decide) ?_
                refine r_istore C dX11_draw_124 (by decide) [1, 2, 3, 4, 5, 6, 0] (lv' := [(0, .ref rM), (1, .int (nI r)), (2, .int (nI f)), (3, .int (nI be)), (4, .int (nI (wy n N b1 be))), (5, .int (nI (hb (nx x1) % (wy n N b1 be)))), (6, .int (nI 0))]) rfl ?_
                have L126 : ∀ (d126 : Nat) (w : Nat) (k : Nat), (n - w) < d126 → (k + cn (mayP n N b1 be) w = hb (nx x1) % wy n N b1 be) → (w ≤ kthV (mayP n N b1 be) (hb (nx x1) % wy n N b1 be)) → RW X 0 0 126 [(0, .ref rM), (1, .int (nI r)), (2, .int (nI f)), (3, .int (nI be)), (5, .int (nI k)), (6, .int (nI w))] [] [(rM, .inr (12, [.int (nI tn), .int (nI n), .int (nI (n / 2)), .int (nI 2), .int (nI sy), .ref rTh, .int (nI ez), .int la, .int ma, .long (nx x1), .ref rTe, .int (bz md), .ref rPu, .ref rWh, .ref rGi, .ref rDr, .ref rTr, .ref rKn, .ref rRo, .int (nI rws), .int (nI sz), .ref rTx])), (rTe, .inl (X.1.2.1, 7, .inl (nO (uO te 1 (te 1 + r))))), (rDr, .inl (X.1.2.1, 36, .inl (eb b1)))] := by
                  intro d126
                  induction d126 with
                  | zero => intro w k hd126; exact absurd hd126 (Nat.not_lt_zero _)
                  | succ d126 ih126 =>
                    intro w k hd126 hkw hwt
                    refine r_aload_n C dX11_draw_126 0 rfl rfl ?_
                    refine r_iload_n C dX11_draw_127 3 rfl rfl ?_
                    refine r_iload C dX11_draw_128 5 rfl ?_
                    refine r_callV0 (n := 2) (ws' := fun (u : Unit) => [(rM, .inr (12, [.int (nI tn), .int (nI n), .int (nI (n / 2)), .int (nI 2), .int (nI sy), .ref rTh, .int (nI ez), .int la, .int ma, .long (nx x1), .ref rTe, .int (bz md), .ref rPu, .ref rWh, .ref rGi, .ref rDr, .ref rTr, .ref rKn, .ref rRo, .int (nI rws), .int (nI sz), .ref rTx])), (rTe, .inl (X.1.2.1, 7, .inl (nO (uO te 1 (te 1 + r))))), (rDr, .inl (X.1.2.1, 36, .inl (eb b1)))]) C dX11_draw_130 (c_X11_mayDraw (g := X.1) (l := X.2.2.1) (rM := rM) (rTh := rTh) (rTe := rTe) (rPu := rPu) (rWh := rWh) (rGi := rGi) (rDr := rDr) (rTr := rTr) (rKn := rKn) (rRo := rRo) (rTx := rTx) (tn := tn) (n := n) (N := N) (sy := sy) (ez := ez) (la := la) (ma := ma) (x := nx x1) (md := md) (rws := rws) (sz := sz) (dr := b1) (c := be) (v := w) (hn := (by first | assumption | omega)) (hc := hbest.1) (hv := (by omega)) (h0 := hbest.2.1) (hk := hok.1)) gX11_draw_X11_mayDraw rfl (by decide +kernel) rfl ⟨Nat.le_of_ble_eq_true rfl, Nat.le_of_ble_eq_true rfl⟩ ⟨rfl, rfl⟩ ⟨Nat.zero_le _, Nat.zero_le _⟩ (rest := []) rfl (Nat.le_of_ble_eq_true rfl) 0 rfl rfl [0, 2] (by decide) rfl (fun u => Eq.trans (b := [rM, rDr]) rfl rfl) (fun u => rfl) (fun v u hp => ?_)
                    obtain rfl := hp
                    show RW X 0 0 133 [(0, .ref rM), (1, .int (nI r)), (2, .int (nI f)), (3, .int (nI be)), (5, .int (nI k)), (6, .int (nI w))] [.int (bz (mayP n N b1 be w))] [(rM, .inr (12, [.int (nI tn), .int (nI n), .int (nI (n / 2)), .int (nI 2), .int (nI sy), .ref rTh, .int (nI ez), .int la, .int ma, .long (nx x1), .ref rTe, .int (bz md), .ref rPu, .ref rWh, .ref rGi, .ref rDr, .ref rTr, .ref rKn, .ref rRo, .int (nI rws), .int (nI sz), .ref rTx])), (rTe, .inl (X.1.2.1, 7, .inl (nO (uO te 1 (te 1 + r))))), (rDr, .inl (X.1.2.1, 36, .inl (eb b1)))]
                    refine r_if_eq (tgt := 141) C dX11_draw_133 (by decide) (fun h133 => ?_) (fun h133 => ?_)
                    · have h133 : ¬ (mayP n N b1 be w) := bz_0.mp h133
                      refine r_iload C dX11_draw_141 4 rfl ?_
                      refine r_aload_n C dX11_draw_143 0 rfl rfl ?_
                      refine r_iload_n C dX11_draw_144 3 rfl rfl ?_
                      refine r_iload C dX11_draw_145 5 rfl ?_
                      refine r_callV0 (n := 2) (ws' := fun (u : Unit) => [(rM, .inr (12, [.int (nI tn), .int (nI n), .int (nI (n / 2)), .int (nI 2), .int (nI sy), .ref rTh, .int (nI ez), .int la, .int ma, .long (nx x1), .ref rTe, .int (bz md), .ref rPu, .ref rWh, .ref rGi, .ref rDr, .ref rTr, .ref rKn, .ref rRo, .int (nI rws), .int (nI sz), .ref rTx])), (rTe, .inl (X.1.2.1, 7, .inl (nO (uO te 1 (te 1 + r))))), (rDr, .inl (X.1.2.1, 36, .inl (eb b1)))]) C dX11_draw_147 (c_X11_mayDraw (g := X.1) (l := X.2.2.1) (rM := rM) (rTh := rTh) (rTe := rTe) (rPu := rPu) (rWh := rWh) (rGi := rGi) (rDr := rDr) (rTr := rTr) (rKn := rKn) (rRo := rRo) (rTx := rTx) (tn := tn) (n := n) (N := N) (sy := sy) (ez := ez) (la := la) (ma := ma) (x := (nx x1)) (md := md) (rws := rws) (sz := sz) (dr := b1) (c := be) (v := w) (hn := (by first | assumption | omega)) (hc := hbest.1) (hv := (by omega)) (h0 := hbest.2.1) (hk := hok.1)) gX11_draw_X11_mayDraw rfl (by decide +kernel) rfl ⟨Nat.le_of_ble_eq_true rfl, Nat.le_of_ble_eq_true rfl⟩ ⟨rfl, rfl⟩ ⟨Nat.zero_le _, Nat.zero_le _⟩ (rest := [.int (nI k)]) rfl (Nat.le_of_ble_eq_true rfl) 0 rfl rfl [0, 2] (by decide) rfl (fun u => Eq.trans (b := [rM, rDr]) rfl rfl) (fun u => rfl) (fun v u hp => ?_)
                      obtain rfl := hp
                      show RW X 0 0 150 [(0, .ref rM), (1, .int (nI r)), (2, .int (nI f)), (3, .int (nI be)), (5, .int (nI k)), (6, .int (nI w))] [.int (bz (mayP n N b1 be w)), .int (nI k)] [(rM, .inr (12, [.int (nI tn), .int (nI n), .int (nI (n / 2)), .int (nI 2), .int (nI sy), .ref rTh, .int (nI ez), .int la, .int ma, .long (nx x1), .ref rTe, .int (bz md), .ref rPu, .ref rWh, .ref rGi, .ref rDr, .ref rTr, .ref rKn, .ref rRo, .int (nI rws), .int (nI sz), .ref rTx])), (rTe, .inl (X.1.2.1, 7, .inl (nO (uO te 1 (te 1 + r))))), (rDr, .inl (X.1.2.1, 36, .inl (eb b1)))]
                      refine r_if_eq (tgt := 157) C dX11_draw_150 (by decide) (fun h150 => ?_) (fun h150 => ?_)
                      · have h150 : ¬ (mayP n N b1 be w) := bz_0.mp h150
                        refine r_iconst C dX11_draw_157 (v := nI 0) (by decide) ?_
                        refine r_isub C dX11_draw_158 (v := nI k) (by show nI k - nI 0 = nI k; rw [pk_sub (Nat.zero_le k)]; rfl) ?_
                        refine r_istore C dX11_draw_159 (by decide) [1, 2, 3, 4, 0, 5] (lv' := [(0, .ref rM), (1, .int (nI r)), (2, .int (nI f)), (3, .int (nI be)), (5, .int (nI k)), (6, .int (nI w))]) rfl ?_
                        refine r_iinc C dX11_draw_161 5 rfl (v := nI (w + 1)) (nI_add _ _) (by decide) [1, 2, 3, 4, 5, 0] (lv' := [(0, .ref rM), (1, .int (nI r)), (2, .int (nI f)), (3, .int (nI be)), (5, .int (nI k)), (6, .int (nI (w + 1)))]) rfl ?_
                        refine r_goto (tgt := 126) C dX11_draw_164 (by decide) ?_
                        exact ih126 (w + 1) k (by omega) (by show k + (cn (mayP n N b1 be) w + dI (mayP n N b1 be w)) = _; rw [dI_f h133]; omega) (Nat.lt_of_le_of_ne hwt (fun e => h133 (by rw [e]; exact hT.2.1)))
                      · have h150 : mayP n N b1 be w := bz_n0.mp h150
                        exact absurd h150 h133
                    · have h133 : mayP n N b1 be w := bz_n0.mp h133
                      refine r_iload C dX11_draw_136 4 rfl ?_
                      refine r_if_le (tgt := 167) C dX11_draw_138 (by decide) (fun h138 => ?_) (fun h138 => ?_)
                      · have h138 : k ≤ 0 := (nI_leI (b := 0) (by omega) (by omega)).mp h138
                        have hwT : w = kthV (mayP n N b1 be) (hb (nx x1) % wy n N b1 be) := cn_inj h133 hT.2.1 (by rw [hT.2.2]; omega)
                        have hmw := h133
                        have hcw : cn (mayP n N b1 be) w = hb (nx x1) % wy n N b1 be := by omega
                        refine r_aload_n C dX11_draw_167 0 rfl rfl ?_
                        refine r_get C dX11_draw_168 iX11_draw_X11 15 fX11_draw_30 0 rfl rfl (by decide) rfl ?_
                        refine r_iload_n C dX11_draw_171 3 rfl rfl ?_
                        refine r_iload C dX11_draw_172 5 rfl ?_
                        refine r_iast C dX11_draw_174 2 rfl (by omega) (by omega) (ws' := [(rM, .inr (12, [.int (nI tn), .int (nI n), .int (nI (n / 2)), .int (nI 2), .int (nI sy), .ref rTh, .int (nI ez), .int la, .int ma, .long (nx x1), .ref rTe, .int (bz md), .ref rPu, .ref rWh, .ref rGi, .ref rDr, .ref rTr, .ref rKn, .ref rRo, .int (nI rws), .int (nI sz), .ref rTx])), (rTe, .inl (X.1.2.1, 7, .inl (nO (uO te 1 (te 1 + r))))), (rDr, .inl (X.1.2.1, 36, .inl (upd (eb b1) be (nI w))))]) rfl ?_
                        rw [eb_s]
                        show RW X 0 0 175 [(0, .ref rM), (1, .int (nI r)), (2, .int (nI f)), (3, .int (nI be)), (5, .int (nI k)), (6, .int (nI w))] [] [(rM, .inr (12, [.int (nI tn), .int (nI n), .int (nI (n / 2)), .int (nI 2), .int (nI sy), .ref rTh, .int (nI ez), .int la, .int ma, .long (nx x1), .ref rTe, .int (bz md), .ref rPu, .ref rWh, .ref rGi, .ref rDr, .ref rTr, .ref rKn, .ref rRo, .int (nI rws), .int (nI sz), .ref rTx])), (rTe, .inl (X.1.2.1, 7, .inl (nO (uO te 1 (te 1 + r))))), (rDr, .inl (X.1.2.1, 36, .inl (eb (ub b1 be (some w)))))]
                        refine r_iinc C dX11_draw_175 2 rfl (v := nI (f + 1)) (nI_add _ _) (by decide) [1, 2, 0, 3, 4, 5] (lv' := [(0, .ref rM), (1, .int (nI r)), (2, .int (nI (f + 1))), (3, .int (nI be)), (5, .int (nI k)), (6, .int (nI w))]) rfl ?_
                        refine r_goto (tgt := 8) C dX11_draw_178 (by decide) ?_
                        refine r_lv [0, 1, 2] (lv' := [(0, .ref rM), (1, .int (nI r)), (2, .int (nI (f + 1)))]) rfl ?_
                        exact ih8 r (f + 1) (nx x1) (ub b1 be (some w)) (by omega) hr (by omega) (by rw [hF]; exact drwC_s (show N - f = (N - (f + 1)) + 1 by omega) hbest h81 hmw hcw) (okB_put hok hmw) (by rw [fil_put hbest.1 hbest.2.1, hfil]) (fun c q => by rw [ub_n (by have := hbest.1; omega)]; exact hzz c q)
                      · have h138 : ¬ (k ≤ 0) := fun e9 => h138 ((nI_leI (b := 0) (by omega) (by omega)).mpr e9)
                        refine r_iload C dX11_draw_141 4 rfl ?_
                        refine r_aload_n C dX11_draw_143 0 rfl rfl ?_
                        refine r_iload_n C dX11_draw_144 3 rfl rfl ?_
                        refine r_iload C dX11_draw_145 5 rfl ?_
                        refine r_callV0 (n := 2) (ws' := fun (u : Unit) => [(rM, .inr (12, [.int (nI tn), .int (nI n), .int (nI (n / 2)), .int (nI 2), .int (nI sy), .ref rTh, .int (nI ez), .int la, .int ma, .long (nx x1), .ref rTe, .int (bz md), .ref rPu, .ref rWh, .ref rGi, .ref rDr, .ref rTr, .ref rKn, .ref rRo, .int (nI rws), .int (nI sz), .ref rTx])), (rTe, .inl (X.1.2.1, 7, .inl (nO (uO te 1 (te 1 + r))))), (rDr, .inl (X.1.2.1, 36, .inl (eb b1)))]) C dX11_draw_147 (c_X11_mayDraw (g := X.1) (l := X.2.2.1) (rM := rM) (rTh := rTh) (rTe := rTe) (rPu := rPu) (rWh := rWh) (rGi := rGi) (rDr := rDr) (rTr := rTr) (rKn := rKn) (rRo := rRo) (rTx := rTx) (tn := tn) (n := n) (N := N) (sy := sy) (ez := ez) (la := la) (ma := ma) (x := (nx x1)) (md := md) (rws := rws) (sz := sz) (dr := b1) (c := be) (v := w) (hn := (by first | assumption | omega)) (hc := hbest.1) (hv := (by omega)) (h0 := hbest.2.1) (hk := hok.1)) gX11_draw_X11_mayDraw rfl (by decide +kernel) rfl ⟨Nat.le_of_ble_eq_true rfl, Nat.le_of_ble_eq_true rfl⟩ ⟨rfl, rfl⟩ ⟨Nat.zero_le _, Nat.zero_le _⟩ (rest := [.int (nI k)]) rfl (Nat.le_of_ble_eq_true rfl) 0 rfl rfl [0, 2] (by decide) rfl (fun u => Eq.trans (b := [rM, rDr]) rfl rfl) (fun u => rfl) (fun v u hp => ?_)
                        obtain rfl := hp
                        show RW X 0 0 150 [(0, .ref rM), (1, .int (nI r)), (2, .int (nI f)), (3, .int (nI be)), (5, .int (nI k)), (6, .int (nI w))] [.int (bz (mayP n N b1 be w)), .int (nI k)] [(rM, .inr (12, [.int (nI tn), .int (nI n), .int (nI (n / 2)), .int (nI 2), .int (nI sy), .ref rTh, .int (nI ez), .int la, .int ma, .long (nx x1), .ref rTe, .int (bz md), .ref rPu, .ref rWh, .ref rGi, .ref rDr, .ref rTr, .ref rKn, .ref rRo, .int (nI rws), .int (nI sz), .ref rTx])), (rTe, .inl (X.1.2.1, 7, .inl (nO (uO te 1 (te 1 + r))))), (rDr, .inl (X.1.2.1, 36, .inl (eb b1)))]
                        refine r_if_eq (tgt := 157) C dX11_draw_150 (by decide) (fun h150 => ?_) (fun h150 => ?_)
                        · have h150 : ¬ (mayP n N b1 be w) := bz_0.mp h150
                          exact absurd h133 h150
                        · have h150 : mayP n N b1 be w := bz_n0.mp h150
                          refine r_iconst C dX11_draw_153 (v := nI 1) (by decide) ?_
                          refine r_goto (tgt := 158) C dX11_draw_154 (by decide) ?_
                          refine r_isub C dX11_draw_158 (v := nI (k - 1)) (pk_sub (by omega)) ?_
                          refine r_istore C dX11_draw_159 (by decide) [1, 2, 3, 4, 0, 5] (lv' := [(0, .ref rM), (1, .int (nI r)), (2, .int (nI f)), (3, .int (nI be)), (5, .int (nI (k - 1))), (6, .int (nI w))]) rfl ?_
                          refine r_iinc C dX11_draw_161 5 rfl (v := nI (w + 1)) (nI_add _ _) (by decide) [1, 2, 3, 4, 5, 0] (lv' := [(0, .ref rM), (1, .int (nI r)), (2, .int (nI f)), (3, .int (nI be)), (5, .int (nI (k - 1))), (6, .int (nI (w + 1)))]) rfl ?_
                          refine r_goto (tgt := 126) C dX11_draw_164 (by decide) ?_
                          exact ih126 (w + 1) (k - 1) (by omega) (by show k - 1 + (cn (mayP n N b1 be) w + dI (mayP n N b1 be w)) = _; rw [dI_t h133]; omega) (Nat.lt_of_le_of_ne hwt (fun e => by have := hT.2.2; rw [← e] at this; omega))
                refine r_lv [0, 1, 2, 3, 5, 6] (lv' := [(0, .ref rM), (1, .int (nI r)), (2, .int (nI f)), (3, .int (nI be)), (5, .int (nI (hb (nx x1) % (wy n N b1 be)))), (6, .int (nI 0))]) rfl ?_
                exact L126 ((n - 0) + 1) 0 (hb (nx x1) % wy n N b1 be) (Nat.lt_succ_self _) (Nat.add_zero _) (Nat.zero_le _)
              · have h81 : (wy n N b1 be) = 0 := (nI_eq (b := 0) (by omega) (by omega)).mp h81
                refine r_iinc C dX11_draw_84 1 rfl (v := nI (r + 1)) (nI_add _ _) (by decide) [1, 0, 2, 3, 4, 5] (lv' := [(0, .ref rM), (1, .int (nI (r + 1))), (2, .int (nI f)), (3, .int (nI be)), (4, .int (nI (wy n N b1 be))), (5, .int (nI i))]) rfl ?_
                refine r_aload_n C dX11_draw_87 0 rfl rfl ?_
                refine r_get C dX11_draw_88 iX11_draw_X11 10 fX11_draw_18 0 rfl rfl (by decide) rfl ?_
                refine r_iconst C dX11_draw_91 (v := nI 1) (by decide) ?_
                refine r_dup2 C dX11_draw_92 rfl rfl ?_
                refine r_iald C dX11_draw_93 1 rfl (by omega) (by omega) ?_
                show RW X 0 0 94 [(0, .ref rM), (1, .int (nI (r + 1))), (2, .int (nI f)), (3, .int (nI be)), (4, .int (nI (wy n N b1 be))), (5, .int (nI i))] [.int (nI (uO te 1 (te 1 + r) 1)), .int (nI 1), .ref rTe] [(rM, .inr (12, [.int (nI tn), .int (nI n), .int (nI (n / 2)), .int (nI 2), .int (nI sy), .ref rTh, .int (nI ez), .int la, .int ma, .long x1, .ref rTe, .int (bz md), .ref rPu, .ref rWh, .ref rGi, .ref rDr, .ref rTr, .ref rKn, .ref rRo, .int (nI rws), .int (nI sz), .ref rTx])), (rTe, .inl (X.1.2.1, 7, .inl (nO (uO te 1 (te 1 + r))))), (rDr, .inl (X.1.2.1, 36, .inl (eb b1)))]
                refine r_iconst C dX11_draw_94 (v := nI 1) (by decide) ?_
                refine r_iadd C dX11_draw_95 (v := nI ((uO te 1 (te 1 + r) 1) + 1)) (nI_add _ _) ?_
                refine r_iast C dX11_draw_96 1 rfl (by omega) (by omega) (ws' := [(rM, .inr (12, [.int (nI tn), .int (nI n), .int (nI (n / 2)), .int (nI 2), .int (nI sy), .ref rTh, .int (nI ez), .int la, .int ma, .long x1, .ref rTe, .int (bz md), .ref rPu, .ref rWh, .ref rGi, .ref rDr, .ref rTr, .ref rKn, .ref rRo, .int (nI rws), .int (nI sz), .ref rTx])), (rTe, .inl (X.1.2.1, 7, .inl (upd (nO (uO te 1 (te 1 + r))) 1 (nI ((uO te 1 (te 1 + r) 1) + 1))))), (rDr, .inl (X.1.2.1, 36, .inl (eb b1)))]) rfl ?_
                rw [show upd (nO (uO te 1 (te 1 + r))) 1 (nI (uO te 1 (te 1 + r) 1 + 1)) = nO (uO te 1 (te 1 + (r + 1))) from te_S]
                show RW X 0 0 97 [(0, .ref rM), (1, .int (nI (r + 1))), (2, .int (nI f)), (3, .int (nI be)), (4, .int (nI (wy n N b1 be))), (5, .int (nI i))] [] [(rM, .inr (12, [.int (nI tn), .int (nI n), .int (nI (n / 2)), .int (nI 2), .int (nI sy), .ref rTh, .int (nI ez), .int la, .int ma, .long x1, .ref rTe, .int (bz md), .ref rPu, .ref rWh, .ref rGi, .ref rDr, .ref rTr, .ref rKn, .ref rRo, .int (nI rws), .int (nI sz), .ref rTx])), (rTe, .inl (X.1.2.1, 7, .inl (nO (uO te 1 (te 1 + (r + 1)))))), (rDr, .inl (X.1.2.1, 36, .inl (eb b1)))]
                refine r_iload_n C dX11_draw_97 1 rfl rfl ?_
                refine r_sipush C dX11_draw_98 (v := nI 200) (by decide) ?_
                refine r_icmp_ne (tgt := 106) C dX11_draw_101 (by decide) (fun h101 => ?_) (fun h101 => ?_)
                · have h101 : ¬ ((r + 1) = 200) := fun e9 => h101 ((nI_eq (by omega) (by omega)).mpr e9)
                  refine r_aload_n C dX11_draw_106 0 rfl rfl ?_
                  refine r_callV0 (n := 0) (ws' := fun (u : Unit) => [(rM, .inr (12, [.int (nI tn), .int (nI n), .int (nI (n / 2)), .int (nI 2), .int (nI sy), .ref rTh, .int (nI ez), .int la, .int ma, .long x1, .ref rTe, .int (bz md), .ref rPu, .ref rWh, .ref rGi, .ref rDr, .ref rTr, .ref rKn, .ref rRo, .int (nI rws), .int (nI sz), .ref rTx])), (rTe, .inl (X.1.2.1, 7, .inl (nO (uO te 1 (te 1 + (r + 1)))))), (rDr, .inl (X.1.2.1, 36, .inl (eb (fun _ => none))))]) C dX11_draw_107 (c_X11_empty (g := X.1) (l := X.2.2.1) (rM := rM) (rTh := rTh) (rTe := rTe) (rPu := rPu) (rWh := rWh) (rGi := rGi) (rDr := rDr) (rTr := rTr) (rKn := rKn) (rRo := rRo) (rTx := rTx) (tn := tn) (n := n) (N := N) (sy := sy) (ez := ez) (la := la) (ma := ma) (x := x1) (md := md) (rws := rws) (sz := sz) (dr := eb b1) ) gX11_draw_X11_empty rfl (by decide +kernel) rfl ⟨Nat.le_of_ble_eq_true rfl, Nat.le_of_ble_eq_true rfl⟩ ⟨rfl, rfl⟩ ⟨Nat.zero_le _, Nat.zero_le _⟩ (rest := []) rfl (Nat.le_of_ble_eq_true rfl) 0 rfl rfl [0, 2] (by decide) rfl (fun u => Eq.trans (b := [rM, rDr]) rfl rfl) (fun u => rfl) (fun v u hp => ?_)
                  obtain rfl := hp
                  show RW X 0 0 110 [(0, .ref rM), (1, .int (nI (r + 1))), (2, .int (nI f)), (3, .int (nI be)), (4, .int (nI (wy n N b1 be))), (5, .int (nI i))] [] [(rM, .inr (12, [.int (nI tn), .int (nI n), .int (nI (n / 2)), .int (nI 2), .int (nI sy), .ref rTh, .int (nI ez), .int la, .int ma, .long x1, .ref rTe, .int (bz md), .ref rPu, .ref rWh, .ref rGi, .ref rDr, .ref rTr, .ref rKn, .ref rRo, .int (nI rws), .int (nI sz), .ref rTx])), (rTe, .inl (X.1.2.1, 7, .inl (nO (uO te 1 (te 1 + (r + 1)))))), (rDr, .inl (X.1.2.1, 36, .inl (eb (fun _ => none))))]
                  refine r_iconst C dX11_draw_110 (v := nI 0) (by decide) ?_
                  refine r_istore_n C dX11_draw_111 rfl (by decide) [1, 2, 0, 3, 4, 5] (lv' := [(0, .ref rM), (1, .int (nI (r + 1))), (2, .int (nI 0)), (3, .int (nI be)), (4, .int (nI (wy n N b1 be))), (5, .int (nI i))]) rfl ?_
                  refine r_goto (tgt := 8) C dX11_draw_112 (by decide) ?_
                  refine r_lv [0, 1, 2] (lv' := [(0, .ref rM), (1, .int (nI (r + 1))), (2, .int (nI 0))]) rfl ?_
                  exact ih8 (r + 1) 0 x1 (fun _ => none) (by omega) (by omega) (Nat.zero_le _) (by rw [hF]; exact drwC_r (show 199 - r = (199 - (r + 1)) + 1 by omega) (show N - f = (N - (f + 1)) + 1 by omega) hbest h81) (okB_none n N) fil_0 (fun _ _ => rfl)
                · have h101 : (r + 1) = 200 := (nI_eq (by omega) (by omega)).mp h101
                  refine r_iconst C dX11_draw_104 (v := nI 0) (by decide) ?_
                  have hF0 : drawW n N 200 x (te 1) = (false, x1, te 1 + (r + 1), fun _ => none) := by
                    rw [hF]; exact drwC_f (show 199 - r = 0 by omega) (show N - f = (N - (f + 1)) + 1 by omega) hbest h81
                  rw [hF0] at hret
                  refine r_top (y := bz (false = true)) ((bz_f (by decide)).symm) ?_
                  exact hret _ _ _ (b1) ⟨rfl, fun w => by cases w⟩ (Or.inr ⟨_, rfl, dX11_draw_105, Or.inr ⟨rfl, bz_01 _⟩⟩)
            · have h35 : ¬ (N ≤ i) := fun e9 => h35 ((nI_leI (by omega) (by omega)).mpr e9)
              refine r_aload_n C dX11_draw_38 0 rfl rfl ?_
              refine r_get C dX11_draw_39 iX11_draw_X11 15 fX11_draw_30 0 rfl rfl (by decide) rfl ?_
              refine r_iload C dX11_draw_42 5 rfl ?_
              refine r_iald C dX11_draw_44 2 rfl (by omega) (by omega) ?_
              refine r_if_ge (tgt := 73) C dX11_draw_45 (by decide) (fun h45 => ?_) (fun h45 => ?_)
              · refine r_iinc C dX11_draw_73 5 rfl (v := nI (i + 1)) (nI_add _ _) (by decide) [1, 2, 3, 4, 5, 0] (lv' := [(0, .ref rM), (1, .int (nI r)), (2, .int (nI f)), (3, .int (eo ob)), (4, .int (nI fw)), (5, .int (nI (i + 1)))]) rfl ?_
                refine r_goto (tgt := 29) C dX11_draw_76 (by decide) ?_
                exact ih29 ob fw (i + 1) (by omega) (by omega) hfw (tiR_full hti (fun e => absurd h45 (by show ¬ 0 ≤ eo (b1 i); rw [e]; decide)))
              · have h0i : b1 i = none := eo_none (Int32.not_le.mp h45) (hok.1 i) (by omega)
                refine r_aload_n C dX11_draw_48 0 rfl rfl ?_
                refine r_iload C dX11_draw_49 5 rfl ?_
                refine r_callV0 (n := 1) (ws' := fun (u : Unit) => [(rM, .inr (12, [.int (nI tn), .int (nI n), .int (nI (n / 2)), .int (nI 2), .int (nI sy), .ref rTh, .int (nI ez), .int la, .int ma, .long x1, .ref rTe, .int (bz md), .ref rPu, .ref rWh, .ref rGi, .ref rDr, .ref rTr, .ref rKn, .ref rRo, .int (nI rws), .int (nI sz), .ref rTx])), (rTe, .inl (X.1.2.1, 7, .inl (nO (uO te 1 (te 1 + r))))), (rDr, .inl (X.1.2.1, 36, .inl (eb b1)))]) C dX11_draw_51 (c_X11_countDraw (g := X.1) (l := X.2.2.1) (rM := rM) (rTh := rTh) (rTe := rTe) (rPu := rPu) (rWh := rWh) (rGi := rGi) (rDr := rDr) (rTr := rTr) (rKn := rKn) (rRo := rRo) (rTx := rTx) (tn := tn) (n := n) (N := N) (sy := sy) (ez := ez) (la := la) (ma := ma) (x := x1) (md := md) (rws := rws) (sz := sz) (dr := b1) (c := i) (hn := (by first | assumption | omega)) (hc := (by omega)) (h0 := h0i) (hk := hok.1)) gX11_draw_X11_countDraw rfl (by decide +kernel) rfl ⟨Nat.le_of_ble_eq_true rfl, Nat.le_of_ble_eq_true rfl⟩ ⟨rfl, rfl⟩ ⟨Nat.zero_le _, Nat.zero_le _⟩ (rest := []) rfl (Nat.le_of_ble_eq_true rfl) 0 rfl rfl [0, 2] (by decide) rfl (fun u => Eq.trans (b := [rM, rDr]) rfl rfl) (fun u => rfl) (fun v u hp => ?_)
                obtain rfl := hp
                show RW X 0 0 54 [(0, .ref rM), (1, .int (nI r)), (2, .int (nI f)), (3, .int (eo ob)), (4, .int (nI fw)), (5, .int (nI i))] [.int (nI (cn (mayP n N b1 i) n))] [(rM, .inr (12, [.int (nI tn), .int (nI n), .int (nI (n / 2)), .int (nI 2), .int (nI sy), .ref rTh, .int (nI ez), .int la, .int ma, .long x1, .ref rTe, .int (bz md), .ref rPu, .ref rWh, .ref rGi, .ref rDr, .ref rTr, .ref rKn, .ref rRo, .int (nI rws), .int (nI sz), .ref rTx])), (rTe, .inl (X.1.2.1, 7, .inl (nO (uO te 1 (te 1 + r))))), (rDr, .inl (X.1.2.1, 36, .inl (eb b1)))]
                have hwl := wy_le n N b1 i
                refine r_top (y := nI (wy n N b1 i)) (congrArg nI (wy_cn hn _ _).symm) ?_
                refine r_iload C dX11_draw_54 4 rfl ?_
                refine r_icmp_lt (tgt := 62) C dX11_draw_56 (by decide) (fun h56 => ?_) (fun h56 => ?_)
                · have h56 : (wy n N b1 i) < fw := (nI_ltI (by omega) (by omega)).mp h56
                  refine r_iload C dX11_draw_62 5 rfl ?_
                  refine r_istore_n C dX11_draw_64 rfl (by decide) [1, 2, 3, 0, 4, 5] (lv' := [(0, .ref rM), (1, .int (nI r)), (2, .int (nI f)), (3, .int (nI i)), (4, .int (nI fw)), (5, .int (nI i))]) rfl ?_
                  refine r_aload_n C dX11_draw_65 0 rfl rfl ?_
                  refine r_iload C dX11_draw_66 5 rfl ?_
                  refine r_callV0 (n := 1) (ws' := fun (u : Unit) => [(rM, .inr (12, [.int (nI tn), .int (nI n), .int (nI (n / 2)), .int (nI 2), .int (nI sy), .ref rTh, .int (nI ez), .int la, .int ma, .long x1, .ref rTe, .int (bz md), .ref rPu, .ref rWh, .ref rGi, .ref rDr, .ref rTr, .ref rKn, .ref rRo, .int (nI rws), .int (nI sz), .ref rTx])), (rTe, .inl (X.1.2.1, 7, .inl (nO (uO te 1 (te 1 + r))))), (rDr, .inl (X.1.2.1, 36, .inl (eb b1)))]) C dX11_draw_68 (c_X11_countDraw (g := X.1) (l := X.2.2.1) (rM := rM) (rTh := rTh) (rTe := rTe) (rPu := rPu) (rWh := rWh) (rGi := rGi) (rDr := rDr) (rTr := rTr) (rKn := rKn) (rRo := rRo) (rTx := rTx) (tn := tn) (n := n) (N := N) (sy := sy) (ez := ez) (la := la) (ma := ma) (x := x1) (md := md) (rws := rws) (sz := sz) (dr := b1) (c := i) (hn := (by first | assumption | omega)) (hc := (by omega)) (h0 := h0i) (hk := hok.1)) gX11_draw_X11_countDraw rfl (by decide +kernel) rfl ⟨Nat.le_of_ble_eq_true rfl, Nat.le_of_ble_eq_true rfl⟩ ⟨rfl, rfl⟩ ⟨Nat.zero_le _, Nat.zero_le _⟩ (rest := []) rfl (Nat.le_of_ble_eq_true rfl) 0 rfl rfl [0, 2] (by decide) rfl (fun u => Eq.trans (b := [rM, rDr]) rfl rfl) (fun u => rfl) (fun v u hp => ?_)
                  obtain rfl := hp
                  show RW X 0 0 71 [(0, .ref rM), (1, .int (nI r)), (2, .int (nI f)), (3, .int (nI i)), (4, .int (nI fw)), (5, .int (nI i))] [.int (nI (cn (mayP n N b1 i) n))] [(rM, .inr (12, [.int (nI tn), .int (nI n), .int (nI (n / 2)), .int (nI 2), .int (nI sy), .ref rTh, .int (nI ez), .int la, .int ma, .long x1, .ref rTe, .int (bz md), .ref rPu, .ref rWh, .ref rGi, .ref rDr, .ref rTr, .ref rKn, .ref rRo, .int (nI rws), .int (nI sz), .ref rTx])), (rTe, .inl (X.1.2.1, 7, .inl (nO (uO te 1 (te 1 + r))))), (rDr, .inl (X.1.2.1, 36, .inl (eb b1)))]
                  refine r_top (y := nI (wy n N b1 i)) (congrArg nI (wy_cn hn _ _).symm) ?_
                  refine r_istore C dX11_draw_71 (by decide) [1, 2, 3, 4, 0, 5] (lv' := [(0, .ref rM), (1, .int (nI r)), (2, .int (nI f)), (3, .int (nI i)), (4, .int (nI (wy n N b1 i))), (5, .int (nI i))]) rfl ?_
                  refine r_iinc C dX11_draw_73 5 rfl (v := nI (i + 1)) (nI_add _ _) (by decide) [1, 2, 3, 4, 5, 0] (lv' := [(0, .ref rM), (1, .int (nI r)), (2, .int (nI f)), (3, .int (nI i)), (4, .int (nI (wy n N b1 i))), (5, .int (nI (i + 1)))]) rfl ?_
                  refine r_goto (tgt := 29) C dX11_draw_76 (by decide) ?_
                  exact ih29 (some i) (wy n N b1 i) (i + 1) (by omega) (by omega) (by omega) (tiR_new hti h0i (by omega))
                · have h56 : ¬ ((wy n N b1 i) < fw) := fun e9 => h56 ((nI_ltI (by omega) (by omega)).mpr e9)
                  refine r_goto (tgt := 73) C dX11_draw_59 (by decide) ?_
                  refine r_iinc C dX11_draw_73 5 rfl (v := nI (i + 1)) (nI_add _ _) (by decide) [1, 2, 3, 4, 5, 0] (lv' := [(0, .ref rM), (1, .int (nI r)), (2, .int (nI f)), (3, .int (eo ob)), (4, .int (nI fw)), (5, .int (nI (i + 1)))]) rfl ?_
                  refine r_goto (tgt := 29) C dX11_draw_76 (by decide) ?_
                  exact ih29 ob fw (i + 1) (by omega) (by omega) hfw (tiR_old hn hti (by omega))
        exact L29 ((N - 0) + 1) none (n + 1) 0 (Nat.lt_succ_self _) (Nat.zero_le _) (by omega) (Or.inl ⟨rfl, by have := hn; omega, fun d q => absurd q (Nat.not_lt_zero d)⟩)
  exact L8 (((199 - 0) * 37 + (N - 0)) + 1) 0 0 x (fun _ => none) (Nat.lt_succ_self _) (by omega) (Nat.zero_le _) (drawW_C 199) (okB_none n N) fil_0 (fun _ _ => rfl)
