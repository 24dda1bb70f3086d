noncomputable def thrF (k : Nat) (E : Prop) : Nat := @ite _ E (Classical.propDecidable E) k 0
theorem thrF_t {k : Nat} {E : Prop} (h : E) : thrF k E = k := by unfold thrF; rw [if_pos h]
theorem thrF_f {k : Nat} {E : Prop} (h : ¬ E) : thrF k E = 0 := by unfold thrF; rw [if_neg h]
theorem box_iff {n N a b : Nat} (hn : (n = 4 ∧ N = 16) ∨ (n = 6 ∧ N = 36)) (ha : a < N) (hb : b < N) : (a / n / 2 = b / n / 2 ∧ a % n / (n / 2) = b % n / (n / 2)) ↔ bx n a = bx n b := by
  unfold bx
  rcases hn with ⟨rfl, rfl⟩ | ⟨rfl, rfl⟩ <;> split <;> split <;> omega
theorem orb_4 : ∀ k, k < 4 → ∀ c, c < 16 → (orb 4 k c 3).2 = lfS 4 k c := by decide +kernel
theorem orb_6 : ∀ k, k < 4 → ∀ c, c < 36 → (orb 6 k c 3).2 = lfS 6 k c := by decide +kernel
theorem orb_34 {n N k c : Nat} (hn : (n = 4 ∧ N = 16) ∨ (n = 6 ∧ N = 36)) (hk : k < 4) (hc : c < N) : (orb n k c 3).2 = lfS n k c := by
  rcases hn with ⟨rfl, rfl⟩ | ⟨rfl, rfl⟩
  · exact orb_4 k hk c hc
  · exact orb_6 k hk c hc
theorem all_S {i : Nat} {P : Nat → Prop} (h : ∀ d, d < i → P d) (hi : P i) : ∀ d, d < i + 1 → P d := fun d q => by
  by_cases e : d = i
  · rw [e]; exact hi
  · exact h d (by omega)
theorem eb_u {b : Nat → Option Nat} {c : Nat} {o : Option Nat} : upd (eb b) c (eo o) = eb (ub b c o) := by
  funext d
  by_cases e : d = c
  · subst e; simp [upd, eb, ub]
  · simp [upd, eb, ub, e]
theorem seq_skip {i : Nat} {g1 gi w : Nat → Option Nat} (h : (∀ c, c < i → g1 c = w c) ∧ ∀ c, i ≤ c → g1 c = gi c) (e : w i = gi i) : (∀ c, c < i + 1 → g1 c = w c) ∧ ∀ c, i + 1 ≤ c → g1 c = gi c :=
  ⟨all_S h.1 ((h.2 i (Nat.le_refl i)).trans e.symm), fun c q => h.2 c (by omega)⟩
theorem seq_put {i : Nat} {g1 gi w : Nat → Option Nat} {o : Option Nat} (h : (∀ c, c < i → g1 c = w c) ∧ ∀ c, i ≤ c → g1 c = gi c) (e : w i = o) : (∀ c, c < i + 1 → ub g1 i o c = w c) ∧ ∀ c, i + 1 ≤ c → ub g1 i o c = gi c :=
  ⟨all_S (fun c q => by rw [ub_n (by omega)]; exact h.1 c q) (by rw [ub_s, e]), fun c q => by rw [ub_n (by omega)]; exact h.2 c (by omega)⟩
def pbF (lf : Nat → Nat) (ls : Nat) (dr gi : Nat → Option Nat) : Nat → Option Nat := fun c => if lf c = ls then dr c else gi c
theorem fX11_cells_45 : Cond.fieldLink RX11 45 (TX11 1).1 (TX11 1).2.1 (TX11 1).2.2.1 ∈ wsX11_cells := List.mem_of_getElem? (i := 1) rfl
theorem iX11_cells_X11 : ∀ w ∈ wsX110, w ∈ wsX11_cells := by decide +kernel
set_option maxHeartbeats 4000000 in
set_option maxRecDepth 100000 in
theorem c_X11_cells {g : ww_G} {l : Launch} {rM : Nat} {rTh : Nat} {rTe : Nat} {rPu : Nat} {rWh : Nat} {rGi : Nat} {rDr : Nat} {rTr : Nat} {rKn : Nat} {rRo : Nat} {rTx : Nat} {tn : Nat} {n : Nat} {N : Nat} {sy : Nat} {ez : Nat} {la : Int32} {ma : Int32} {x : Int64} {md : Prop} {rws : Nat} {sz : Nat} (hn : (n = 4 ∧ N = 16) ∨ (n = 6 ∧ N = 36)) : CT g l yX11_cells wsX11_cells (ww_rm 1) [.ref rM] ([(rM, .inr (12, [.int (nI tn), .int (nI n), .int (nI (n / 2)), .int (nI 2), .int (nI sy), .ref rTh, .int (nI ez), .int la, .int ma, .long x, .ref rTe, .int (bz md), .ref rPu, .ref rWh, .ref rGi, .ref rDr, .ref rTr, .ref rKn, .ref rRo, .int (nI rws), .int (nI sz), .ref rTx]))]) (S := Unit) (fun vv9 u => vv9 = some (.int (nI N))) (fun u => [(rM, .inr (12, [.int (nI tn), .int (nI n), .int (nI (n / 2)), .int (nI 2), .int (nI sy), .ref rTh, .int (nI ez), .int la, .int ma, .long x, .ref rTe, .int (bz md), .ref rPu, .ref rWh, .ref rGi, .ref rDr, .ref rTr, .ref rKn, .ref rRo, .int (nI rws), .int (nI sz), .ref rTx]))]) := by
  refine CT.of cX11_cells 1 (some .int) RX11 (by decide +kernel) rfl rfl (Nat.le_of_ble_eq_true rfl) ?_
  intro X hg hl C hret
  subst hg; subst hl
  show RW X 0 0 0 [(0, .ref rM)] [] [(rM, .inr (12, [.int (nI tn), .int (nI n), .int (nI (n / 2)), .int (nI 2), .int (nI sy), .ref rTh, .int (nI ez), .int la, .int ma, .long x, .ref rTe, .int (bz md), .ref rPu, .ref rWh, .ref rGi, .ref rDr, .ref rTr, .ref rKn, .ref rRo, .int (nI rws), .int (nI sz), .ref rTx]))]
  refine r_aload_n C dX11_cells_0 0 rfl rfl ?_
  refine r_get C dX11_cells_1 iX11_cells_X11 1 fX11_cells_45 0 rfl rfl (by decide) rfl ?_
  refine r_aload_n C dX11_cells_4 0 rfl rfl ?_
  refine r_get C dX11_cells_5 iX11_cells_X11 1 fX11_cells_45 0 rfl rfl (by decide) rfl ?_
  refine r_imul C dX11_cells_8 (v := nI (n * n)) (pk_mul _ _) ?_
  refine r_top (y := nI N) (congrArg nI (by rcases hn with ⟨rfl, rfl⟩ | ⟨rfl, rfl⟩ <;> rfl)) ?_
  exact hret _ _ _ () rfl (Or.inr ⟨_, rfl, dX11_cells_9, Or.inl rfl⟩)
theorem fX11_thrown_54 : Cond.fieldLink RX11 54 (TX11 0).1 (TX11 0).2.1 (TX11 0).2.2.1 ∈ wsX11_thrown := List.mem_of_getElem? (i := 1) rfl
theorem iX11_thrown_X11 : ∀ w ∈ wsX110, w ∈ wsX11_thrown := by decide +kernel
set_option maxHeartbeats 4000000 in
set_option maxRecDepth 100000 in
theorem c_X11_thrown {g : ww_G} {l : Launch} {rM : Nat} {rTh : Nat} {rTe : Nat} {rPu : Nat} {rWh : Nat} {rGi : Nat} {rDr : Nat} {rTr : Nat} {rKn : Nat} {rRo : Nat} {rTx : Nat} {tn : Nat} {n : Nat} {N : Nat} {sy : Nat} {ez : Nat} {la : Int32} {ma : Int32} {x : Int64} {md : Prop} {rws : Nat} {sz : Nat}  : CT g l yX11_thrown wsX11_thrown (ww_rm 1) [.ref rM] ([(rM, .inr (12, [.int (nI tn), .int (nI n), .int (nI (n / 2)), .int (nI 2), .int (nI sy), .ref rTh, .int (nI ez), .int la, .int ma, .long x, .ref rTe, .int (bz md), .ref rPu, .ref rWh, .ref rGi, .ref rDr, .ref rTr, .ref rKn, .ref rRo, .int (nI rws), .int (nI sz), .ref rTx]))]) (S := Unit) (fun vv9 u => vv9 = some (.int (nI tn))) (fun u => [(rM, .inr (12, [.int (nI tn), .int (nI n), .int (nI (n / 2)), .int (nI 2), .int (nI sy), .ref rTh, .int (nI ez), .int la, .int ma, .long x, .ref rTe, .int (bz md), .ref rPu, .ref rWh, .ref rGi, .ref rDr, .ref rTr, .ref rKn, .ref rRo, .int (nI rws), .int (nI sz), .ref rTx]))]) := by
  refine CT.of cX11_thrown 1 (some .int) RX11 (by decide +kernel) rfl rfl (Nat.le_of_ble_eq_true rfl) ?_
  intro X hg hl C hret
  subst hg; subst hl
  show RW X 0 0 0 [(0, .ref rM)] [] [(rM, .inr (12, [.int (nI tn), .int (nI n), .int (nI (n / 2)), .int (nI 2), .int (nI sy), .ref rTh, .int (nI ez), .int la, .int ma, .long x, .ref rTe, .int (bz md), .ref rPu, .ref rWh, .ref rGi, .ref rDr, .ref rTr, .ref rKn, .ref rRo, .int (nI rws), .int (nI sz), .ref rTx]))]
  refine r_aload_n C dX11_thrown_0 0 rfl rfl ?_
  refine r_get C dX11_thrown_1 iX11_thrown_X11 0 fX11_thrown_54 0 rfl rfl (by decide) rfl ?_
  exact hret _ _ _ () rfl (Or.inr ⟨_, rfl, dX11_thrown_4, Or.inl rfl⟩)
theorem fX11_throwsIf_54 : Cond.fieldLink RX11 54 (TX11 0).1 (TX11 0).2.1 (TX11 0).2.2.1 ∈ wsX11_throwsIf := List.mem_of_getElem? (i := 1) rfl
theorem iX11_throwsIf_X11 : ∀ w ∈ wsX110, w ∈ wsX11_throwsIf := by decide +kernel
set_option maxHeartbeats 4000000 in
set_option maxRecDepth 100000 in
theorem c_X11_throwsIf {g : ww_G} {l : Launch} {rM : Nat} {rTh : Nat} {rTe : Nat} {rPu : Nat} {rWh : Nat} {rGi : Nat} {rDr : Nat} {rTr : Nat} {rKn : Nat} {rRo : Nat} {rTx : Nat} {tn : Nat} {n : Nat} {N : Nat} {sy : Nat} {ez : Nat} {la : Int32} {ma : Int32} {x : Int64} {md : Prop} {rws : Nat} {sz : Nat} {k : Nat} {E : Prop}  : CT g l yX11_throwsIf wsX11_throwsIf (ww_rm 1) [.ref rM, .int (nI k), .int (bz E)] ([(rM, .inr (12, [.int (nI tn), .int (nI n), .int (nI (n / 2)), .int (nI 2), .int (nI sy), .ref rTh, .int (nI ez), .int la, .int ma, .long x, .ref rTe, .int (bz md), .ref rPu, .ref rWh, .ref rGi, .ref rDr, .ref rTr, .ref rKn, .ref rRo, .int (nI rws), .int (nI sz), .ref rTx]))]) (S := Unit) (fun vv9 u => vv9 = some (.int (bz E))) (fun u => [(rM, .inr (12, [.int (nI (thrF k E)), .int (nI n), .int (nI (n / 2)), .int (nI 2), .int (nI sy), .ref rTh, .int (nI ez), .int la, .int ma, .long x, .ref rTe, .int (bz md), .ref rPu, .ref rWh, .ref rGi, .ref rDr, .ref rTr, .ref rKn, .ref rRo, .int (nI rws), .int (nI sz), .ref rTx]))]) := by
  refine CT.of cX11_throwsIf 3 (some .boolean) RX11 (by decide +kernel) rfl rfl (Nat.le_of_ble_eq_true rfl) ?_
  intro X hg hl C hret
  subst hg; subst hl
  show RW X 0 0 0 [(0, .ref rM), (1, .int (nI k)), (2, .int (bz E))] [] [(rM, .inr (12, [.int (nI tn), .int (nI n), .int (nI (n / 2)), .int (nI 2), .int (nI sy), .ref rTh, .int (nI ez), .int la, .int ma, .long x, .ref rTe, .int (bz md), .ref rPu, .ref rWh, .ref rGi, .ref rDr, .ref rTr, .ref rKn, .ref rRo, .int (nI rws), .int (nI sz), .ref rTx]))]
  refine r_aload_n C dX11_throwsIf_0 0 rfl rfl ?_
  refine r_iload_n C dX11_throwsIf_1 2 rfl rfl ?_
  refine r_if_eq (tgt := 9) C dX11_throwsIf_2 (by decide) (fun h2 => ?_) (fun h2 => ?_)
  · have h2 : ¬ (E) := bz_0.mp h2
    refine r_iconst C dX11_throwsIf_9 (v := nI 0) (by decide) ?_
    refine r_top (y := nI (thrF k E)) (by rw [thrF_f h2]) ?_
    refine r_put C dX11_throwsIf_10 iX11_throwsIf_X11 tyX11 tyX11_ok nmX11 0 fX11_throwsIf_54 0 rfl rfl (by decide) rfl rfl rfl rfl (Nat.le_of_ble_eq_true rfl) (ws' := [(rM, .inr (12, [.int (nI (thrF k E)), .int (nI n), .int (nI (n / 2)), .int (nI 2), .int (nI sy), .ref rTh, .int (nI ez), .int la, .int ma, .long x, .ref rTe, .int (bz md), .ref rPu, .ref rWh, .ref rGi, .ref rDr, .ref rTr, .ref rKn, .ref rRo, .int (nI rws), .int (nI sz), .ref rTx]))]) rfl ?_
    refine r_iload_n C dX11_throwsIf_13 2 rfl rfl ?_
    exact hret _ _ _ () rfl (Or.inr ⟨_, rfl, dX11_throwsIf_14, Or.inr ⟨rfl, bz_01 _⟩⟩)
  · have h2 : E := bz_n0.mp h2
    refine r_iload_n C dX11_throwsIf_5 1 rfl rfl ?_
    refine r_goto (tgt := 10) C dX11_throwsIf_6 (by decide) ?_
    refine r_top (y := nI (thrF k E)) (by rw [thrF_t h2]) ?_
    refine r_put C dX11_throwsIf_10 iX11_throwsIf_X11 tyX11 tyX11_ok nmX11 0 fX11_throwsIf_54 0 rfl rfl (by decide) rfl rfl rfl rfl (Nat.le_of_ble_eq_true rfl) (ws' := [(rM, .inr (12, [.int (nI (thrF k E)), .int (nI n), .int (nI (n / 2)), .int (nI 2), .int (nI sy), .ref rTh, .int (nI ez), .int la, .int ma, .long x, .ref rTe, .int (bz md), .ref rPu, .ref rWh, .ref rGi, .ref rDr, .ref rTr, .ref rKn, .ref rRo, .int (nI rws), .int (nI sz), .ref rTx]))]) rfl ?_
    refine r_iload_n C dX11_throwsIf_13 2 rfl rfl ?_
    exact hret _ _ _ () rfl (Or.inr ⟨_, rfl, dX11_throwsIf_14, Or.inr ⟨rfl, bz_01 _⟩⟩)

set_option maxHeartbeats 4000000 in
set_option maxRecDepth 100000 in
theorem c_X11_isCell {g : ww_G} {l : Launch} {rM : Nat} {rTh : Nat} {rTe : Nat} {rPu : Nat} {rWh : Nat} {rGi : Nat} {rDr : Nat} {rTr : Nat} {rKn : Nat} {rRo : Nat} {rTx : Nat} {tn : Nat} {n : Nat} {N : Nat} {sy : Nat} {ez : Nat} {la : Int32} {ma : Int32} {x : Int64} {md : Prop} {rws : Nat} {sz : Nat} {c : Int32} (hn : (n = 4 ∧ N = 16) ∨ (n = 6 ∧ N = 36)) : CT g l yX11_isCell wsX11_isCell (ww_rm 2) [.ref rM, .int c] ([(rM, .inr (12, [.int (nI tn), .int (nI n), .int (nI (n / 2)), .int (nI 2), .int (nI sy), .ref rTh, .int (nI ez), .int la, .int ma, .long x, .ref rTe, .int (bz md), .ref rPu, .ref rWh, .ref rGi, .ref rDr, .ref rTr, .ref rKn, .ref rRo, .int (nI rws), .int (nI sz), .ref rTx]))]) (S := Unit) (fun vv9 u => vv9 = some (.int (bz (∃ j, j < N ∧ c = nI j)))) (fun u => [(rM, .inr (12, [.int (nI tn), .int (nI n), .int (nI (n / 2)), .int (nI 2), .int (nI sy), .ref rTh, .int (nI ez), .int la, .int ma, .long x, .ref rTe, .int (bz md), .ref rPu, .ref rWh, .ref rGi, .ref rDr, .ref rTr, .ref rKn, .ref rRo, .int (nI rws), .int (nI sz), .ref rTx]))]) := by
  refine CT.of cX11_isCell 2 (some .boolean) RX11 (by decide +kernel) rfl rfl (Nat.le_of_ble_eq_true rfl) ?_
  intro X hg hl C hret
  subst hg; subst hl
  show RW X 0 0 0 [(0, .ref rM), (1, .int c)] [] [(rM, .inr (12, [.int (nI tn), .int (nI n), .int (nI (n / 2)), .int (nI 2), .int (nI sy), .ref rTh, .int (nI ez), .int la, .int ma, .long x, .ref rTe, .int (bz md), .ref rPu, .ref rWh, .ref rGi, .ref rDr, .ref rTr, .ref rKn, .ref rRo, .int (nI rws), .int (nI sz), .ref rTx]))]
  refine r_iload_n C dX11_isCell_0 1 rfl rfl ?_
  refine r_if_lt (tgt := 16) C dX11_isCell_1 (by decide) (fun h1 => ?_) (fun h1 => ?_)
  · refine r_iconst C dX11_isCell_16 (v := nI 0) (by decide) ?_
    refine r_top (y := bz (∃ j, j < N ∧ c = nI j)) ((bz_f (fun ⟨j, q1, q2⟩ => absurd h1 (by rw [q2]; exact nI_pos (by omega)))).symm) ?_
    exact hret _ _ _ () rfl (Or.inr ⟨_, rfl, dX11_isCell_17, Or.inr ⟨rfl, bz_01 _⟩⟩)
  · refine r_iload_n C dX11_isCell_4 1 rfl rfl ?_
    refine r_aload_n C dX11_isCell_5 0 rfl rfl ?_
    refine r_callV0 (n := 0) (ws' := fun (u : Unit) => [(rM, .inr (12, [.int (nI tn), .int (nI n), .int (nI (n / 2)), .int (nI 2), .int (nI sy), .ref rTh, .int (nI ez), .int la, .int ma, .long x, .ref rTe, .int (bz md), .ref rPu, .ref rWh, .ref rGi, .ref rDr, .ref rTr, .ref rKn, .ref rRo, .int (nI rws), .int (nI sz), .ref rTx]))]) C dX11_isCell_6 (c_X11_cells (g := X.1) (l := X.2.2.1) (rM := rM) (rTh := rTh) (rTe := rTe) (rPu := rPu) (rWh := rWh) (rGi := rGi) (rDr := rDr) (rTr := rTr) (rKn := rKn) (rRo := rRo) (rTx := rTx) (tn := tn) (n := n) (N := N) (sy := sy) (ez := ez) (la := la) (ma := ma) (x := x) (md := md) (rws := rws) (sz := sz) (hn := (by first | assumption | omega))) gX11_isCell_X11_cells rfl (by decide +kernel) rfl ⟨Nat.le_of_ble_eq_true rfl, Nat.le_of_ble_eq_true rfl⟩ ⟨rfl, rfl⟩ ⟨Nat.zero_le _, Nat.zero_le _⟩ (rest := [.int c]) rfl (Nat.le_of_ble_eq_true rfl) 0 rfl rfl [0] (by decide) rfl (fun u => Eq.trans (b := [rM]) rfl rfl) (fun u => rfl) (fun v u hp => ?_)
    obtain rfl := hp
    show RW X 0 0 9 [(0, .ref rM), (1, .int c)] [.int (nI N), .int c] [(rM, .inr (12, [.int (nI tn), .int (nI n), .int (nI (n / 2)), .int (nI 2), .int (nI sy), .ref rTh, .int (nI ez), .int la, .int ma, .long x, .ref rTe, .int (bz md), .ref rPu, .ref rWh, .ref rGi, .ref rDr, .ref rTr, .ref rKn, .ref rRo, .int (nI rws), .int (nI sz), .ref rTx]))]
    refine r_icmp_ge (tgt := 16) C dX11_isCell_9 (by decide) (fun h9 => ?_) (fun h9 => ?_)
    · refine r_iconst C dX11_isCell_16 (v := nI 0) (by decide) ?_
      refine r_top (y := bz (∃ j, j < N ∧ c = nI j)) ((bz_f (fun ⟨j, q1, q2⟩ => absurd h9 (by rw [q2]; exact nI_ge q1 (by omega)))).symm) ?_
      exact hret _ _ _ () rfl (Or.inr ⟨_, rfl, dX11_isCell_17, Or.inr ⟨rfl, bz_01 _⟩⟩)
    · refine r_iconst C dX11_isCell_12 (v := nI 1) (by decide) ?_
      refine r_goto (tgt := 17) C dX11_isCell_13 (by decide) ?_
      refine r_top (y := bz (∃ j, j < N ∧ c = nI j)) ((bz_t (hasT h1 h9 (by omega))).symm) ?_
      exact hret _ _ _ () rfl (Or.inr ⟨_, rfl, dX11_isCell_17, Or.inr ⟨rfl, bz_01 _⟩⟩)
theorem fX11_sees_45 : Cond.fieldLink RX11 45 (TX11 1).1 (TX11 1).2.1 (TX11 1).2.2.1 ∈ wsX11_sees := List.mem_of_getElem? (i := 1) rfl
theorem iX11_sees_X11 : ∀ w ∈ wsX110, w ∈ wsX11_sees := by decide +kernel
theorem fX11_sees_51 : Cond.fieldLink RX11 51 (TX11 3).1 (TX11 3).2.1 (TX11 3).2.2.1 ∈ wsX11_sees := List.mem_of_getElem? (i := 2) rfl
theorem fX11_sees_48 : Cond.fieldLink RX11 48 (TX11 2).1 (TX11 2).2.1 (TX11 2).2.2.1 ∈ wsX11_sees := List.mem_of_getElem? (i := 3) rfl
set_option maxHeartbeats 4000000 in
set_option maxRecDepth 100000 in
theorem c_X11_sees {g : ww_G} {l : Launch} {rM : Nat} {rTh : Nat} {rTe : Nat} {rPu : Nat} {rWh : Nat} {rGi : Nat} {rDr : Nat} {rTr : Nat} {rKn : Nat} {rRo : Nat} {rTx : Nat} {tn : Nat} {n : Nat} {N : Nat} {sy : Nat} {ez : Nat} {la : Int32} {ma : Int32} {x : Int64} {md : Prop} {rws : Nat} {sz : Nat} {a : Nat} {b : Nat} (hn : (n = 4 ∧ N = 16) ∨ (n = 6 ∧ N = 36)) (ha : a < N) (hb : b < N) : CT g l yX11_sees wsX11_sees (ww_rm 1) [.ref rM, .int (nI a), .int (nI b)] ([(rM, .inr (12, [.int (nI tn), .int (nI n), .int (nI (n / 2)), .int (nI 2), .int (nI sy), .ref rTh, .int (nI ez), .int la, .int ma, .long x, .ref rTe, .int (bz md), .ref rPu, .ref rWh, .ref rGi, .ref rDr, .ref rTr, .ref rKn, .ref rRo, .int (nI rws), .int (nI sz), .ref rTx]))]) (S := Unit) (fun vv9 u => vv9 = some (.int (bz (a ≠ b ∧ tog n a b)))) (fun u => [(rM, .inr (12, [.int (nI tn), .int (nI n), .int (nI (n / 2)), .int (nI 2), .int (nI sy), .ref rTh, .int (nI ez), .int la, .int ma, .long x, .ref rTe, .int (bz md), .ref rPu, .ref rWh, .ref rGi, .ref rDr, .ref rTr, .ref rKn, .ref rRo, .int (nI rws), .int (nI sz), .ref rTx]))]) := by
  refine CT.of cX11_sees 3 (some .boolean) RX11 (by decide +kernel) rfl rfl (Nat.le_of_ble_eq_true rfl) ?_
  intro X hg hl C hret
  subst hg; subst hl
  show RW X 0 0 0 [(0, .ref rM), (1, .int (nI a)), (2, .int (nI b))] [] [(rM, .inr (12, [.int (nI tn), .int (nI n), .int (nI (n / 2)), .int (nI 2), .int (nI sy), .ref rTh, .int (nI ez), .int la, .int ma, .long x, .ref rTe, .int (bz md), .ref rPu, .ref rWh, .ref rGi, .ref rDr, .ref rTr, .ref rKn, .ref rRo, .int (nI rws), .int (nI sz), .ref rTx]))]
  have e1 := dv_lt hn ha
  have e2 := dv_lt hn hb
  have e3 := md_lt (c := a) hn
  have e4 := md_lt (c := b) hn
  have e5 := Nat.div_le_self (a % n) (n / 2)
  have e6 := Nat.div_le_self (b % n) (n / 2)
  refine r_iload_n C dX11_sees_0 1 rfl rfl ?_
  refine r_iload_n C dX11_sees_1 2 rfl rfl ?_
  refine r_icmp_ne (tgt := 7) C dX11_sees_2 (by decide) (fun h2 => ?_) (fun h2 => ?_)
  · have h2 : ¬ (a = b) := fun e9 => h2 ((nI_eq (by omega) (by omega)).mpr e9)
    refine r_iload_n C dX11_sees_7 1 rfl rfl ?_
    refine r_aload_n C dX11_sees_8 0 rfl rfl ?_
    refine r_get C dX11_sees_9 iX11_sees_X11 1 fX11_sees_45 0 rfl rfl (by decide) rfl ?_
    refine r_idiv C dX11_sees_12 (nI_ne0 (by omega) (by omega)) (v := nI (a / n)) (pk_div (by omega) (by omega) (by omega)) ?_
    refine r_iload_n C dX11_sees_13 2 rfl rfl ?_
    refine r_aload_n C dX11_sees_14 0 rfl rfl ?_
    refine r_get C dX11_sees_15 iX11_sees_X11 1 fX11_sees_45 0 rfl rfl (by decide) rfl ?_
    refine r_idiv C dX11_sees_18 (nI_ne0 (by omega) (by omega)) (v := nI (b / n)) (pk_div (by omega) (by omega) (by omega)) ?_
    refine r_icmp_eq (tgt := 87) C dX11_sees_19 (by decide) (fun h19 => ?_) (fun h19 => ?_)
    · have h19 : (a / n) = (b / n) := (nI_eq (by omega) (by omega)).mp h19
      refine r_iconst C dX11_sees_87 (v := nI 1) (by decide) ?_
      refine r_goto (tgt := 92) C dX11_sees_88 (by decide) ?_
      refine r_top (y := bz (a ≠ b ∧ tog n a b)) ((bz_t ⟨h2, Or.inl h19⟩).symm) ?_
      exact hret _ _ _ () rfl (Or.inr ⟨_, rfl, dX11_sees_92, Or.inr ⟨rfl, bz_01 _⟩⟩)
    · have h19 : ¬ ((a / n) = (b / n)) := fun e9 => h19 ((nI_eq (by omega) (by omega)).mpr e9)
      refine r_iload_n C dX11_sees_22 1 rfl rfl ?_
      refine r_aload_n C dX11_sees_23 0 rfl rfl ?_
      refine r_get C dX11_sees_24 iX11_sees_X11 1 fX11_sees_45 0 rfl rfl (by decide) rfl ?_
      refine r_irem C dX11_sees_27 (nI_ne0 (by omega) (by omega)) (v := nI (a % n)) (pk_rem (by omega) (by omega) (by omega)) ?_
      refine r_iload_n C dX11_sees_28 2 rfl rfl ?_
      refine r_aload_n C dX11_sees_29 0 rfl rfl ?_
      refine r_get C dX11_sees_30 iX11_sees_X11 1 fX11_sees_45 0 rfl rfl (by decide) rfl ?_
      refine r_irem C dX11_sees_33 (nI_ne0 (by omega) (by omega)) (v := nI (b % n)) (pk_rem (by omega) (by omega) (by omega)) ?_
      refine r_icmp_eq (tgt := 87) C dX11_sees_34 (by decide) (fun h34 => ?_) (fun h34 => ?_)
      · have h34 : (a % n) = (b % n) := (nI_eq (by omega) (by omega)).mp h34
        refine r_iconst C dX11_sees_87 (v := nI 1) (by decide) ?_
        refine r_goto (tgt := 92) C dX11_sees_88 (by decide) ?_
        refine r_top (y := bz (a ≠ b ∧ tog n a b)) ((bz_t ⟨h2, Or.inr (Or.inl h34)⟩).symm) ?_
        exact hret _ _ _ () rfl (Or.inr ⟨_, rfl, dX11_sees_92, Or.inr ⟨rfl, bz_01 _⟩⟩)
      · have h34 : ¬ ((a % n) = (b % n)) := fun e9 => h34 ((nI_eq (by omega) (by omega)).mpr e9)
        refine r_iload_n C dX11_sees_37 1 rfl rfl ?_
        refine r_aload_n C dX11_sees_38 0 rfl rfl ?_
        refine r_get C dX11_sees_39 iX11_sees_X11 1 fX11_sees_45 0 rfl rfl (by decide) rfl ?_
        refine r_idiv C dX11_sees_42 (nI_ne0 (by omega) (by omega)) (v := nI (a / n)) (pk_div (by omega) (by omega) (by omega)) ?_
        refine r_aload_n C dX11_sees_43 0 rfl rfl ?_
        refine r_get C dX11_sees_44 iX11_sees_X11 3 fX11_sees_51 0 rfl rfl (by decide) rfl ?_
        refine r_idiv C dX11_sees_47 (nI_ne0 (by omega) (by omega)) (v := nI ((a / n) / 2)) (pk_div (by omega) (by omega) (by omega)) ?_
        refine r_iload_n C dX11_sees_48 2 rfl rfl ?_
        refine r_aload_n C dX11_sees_49 0 rfl rfl ?_
        refine r_get C dX11_sees_50 iX11_sees_X11 1 fX11_sees_45 0 rfl rfl (by decide) rfl ?_
        refine r_idiv C dX11_sees_53 (nI_ne0 (by omega) (by omega)) (v := nI (b / n)) (pk_div (by omega) (by omega) (by omega)) ?_
        refine r_aload_n C dX11_sees_54 0 rfl rfl ?_
        refine r_get C dX11_sees_55 iX11_sees_X11 3 fX11_sees_51 0 rfl rfl (by decide) rfl ?_
        refine r_idiv C dX11_sees_58 (nI_ne0 (by omega) (by omega)) (v := nI ((b / n) / 2)) (pk_div (by omega) (by omega) (by omega)) ?_
        refine r_icmp_ne (tgt := 91) C dX11_sees_59 (by decide) (fun h59 => ?_) (fun h59 => ?_)
        · have h59 : ¬ (((a / n) / 2) = ((b / n) / 2)) := fun e9 => h59 ((nI_eq (by omega) (by omega)).mpr e9)
          refine r_iconst C dX11_sees_91 (v := nI 0) (by decide) ?_
          refine r_top (y := bz (a ≠ b ∧ tog n a b)) ((bz_f (fun w => w.2.elim h19 (fun q => q.elim h34 (fun q => h59 ((box_iff hn ha hb).mpr q).1)))).symm) ?_
          exact hret _ _ _ () rfl (Or.inr ⟨_, rfl, dX11_sees_92, Or.inr ⟨rfl, bz_01 _⟩⟩)
        · have h59 : ((a / n) / 2) = ((b / n) / 2) := (nI_eq (by omega) (by omega)).mp h59
          refine r_iload_n C dX11_sees_62 1 rfl rfl ?_
          refine r_aload_n C dX11_sees_63 0 rfl rfl ?_
          refine r_get C dX11_sees_64 iX11_sees_X11 1 fX11_sees_45 0 rfl rfl (by decide) rfl ?_
          refine r_irem C dX11_sees_67 (nI_ne0 (by omega) (by omega)) (v := nI (a % n)) (pk_rem (by omega) (by omega) (by omega)) ?_
          refine r_aload_n C dX11_sees_68 0 rfl rfl ?_
          refine r_get C dX11_sees_69 iX11_sees_X11 2 fX11_sees_48 0 rfl rfl (by decide) rfl ?_
          refine r_idiv C dX11_sees_72 (nI_ne0 (by omega) (by omega)) (v := nI ((a % n) / (n / 2))) (pk_div (by omega) (by omega) (by omega)) ?_
          refine r_iload_n C dX11_sees_73 2 rfl rfl ?_
          refine r_aload_n C dX11_sees_74 0 rfl rfl ?_
          refine r_get C dX11_sees_75 iX11_sees_X11 1 fX11_sees_45 0 rfl rfl (by decide) rfl ?_
          refine r_irem C dX11_sees_78 (nI_ne0 (by omega) (by omega)) (v := nI (b % n)) (pk_rem (by omega) (by omega) (by omega)) ?_
          refine r_aload_n C dX11_sees_79 0 rfl rfl ?_
          refine r_get C dX11_sees_80 iX11_sees_X11 2 fX11_sees_48 0 rfl rfl (by decide) rfl ?_
          refine r_idiv C dX11_sees_83 (nI_ne0 (by omega) (by omega)) (v := nI ((b % n) / (n / 2))) (pk_div (by omega) (by omega) (by omega)) ?_
          refine r_icmp_ne (tgt := 91) C dX11_sees_84 (by decide) (fun h84 => ?_) (fun h84 => ?_)
          · have h84 : ¬ (((a % n) / (n / 2)) = ((b % n) / (n / 2))) := fun e9 => h84 ((nI_eq (by omega) (by omega)).mpr e9)
            refine r_iconst C dX11_sees_91 (v := nI 0) (by decide) ?_
            refine r_top (y := bz (a ≠ b ∧ tog n a b)) ((bz_f (fun w => w.2.elim h19 (fun q => q.elim h34 (fun q => h84 ((box_iff hn ha hb).mpr q).2)))).symm) ?_
            exact hret _ _ _ () rfl (Or.inr ⟨_, rfl, dX11_sees_92, Or.inr ⟨rfl, bz_01 _⟩⟩)
          · have h84 : ((a % n) / (n / 2)) = ((b % n) / (n / 2)) := (nI_eq (by omega) (by omega)).mp h84
            refine r_iconst C dX11_sees_87 (v := nI 1) (by decide) ?_
            refine r_goto (tgt := 92) C dX11_sees_88 (by decide) ?_
            refine r_top (y := bz (a ≠ b ∧ tog n a b)) ((bz_t ⟨h2, Or.inr (Or.inr ((box_iff hn ha hb).mp ⟨h59, h84⟩))⟩).symm) ?_
            exact hret _ _ _ () rfl (Or.inr ⟨_, rfl, dX11_sees_92, Or.inr ⟨rfl, bz_01 _⟩⟩)
  · have h2 : a = b := (nI_eq (by omega) (by omega)).mp h2
    refine r_iconst C dX11_sees_5 (v := nI 0) (by decide) ?_
    refine r_top (y := bz (a ≠ b ∧ tog n a b)) ((bz_f (fun w => w.1 h2)).symm) ?_
    exact hret _ _ _ () rfl (Or.inr ⟨_, rfl, dX11_sees_6, Or.inr ⟨rfl, bz_01 _⟩⟩)
theorem fX11_isTogether_45 : Cond.fieldLink RX11 45 (TX11 1).1 (TX11 1).2.1 (TX11 1).2.2.1 ∈ wsX11_isTogether := List.mem_of_getElem? (i := 1) rfl
theorem iX11_isTogether_X11 : ∀ w ∈ wsX110, w ∈ wsX11_isTogether := by decide +kernel
theorem fX11_isTogether_51 : Cond.fieldLink RX11 51 (TX11 3).1 (TX11 3).2.1 (TX11 3).2.2.1 ∈ wsX11_isTogether := List.mem_of_getElem? (i := 2) rfl
theorem fX11_isTogether_48 : Cond.fieldLink RX11 48 (TX11 2).1 (TX11 2).2.1 (TX11 2).2.2.1 ∈ wsX11_isTogether := List.mem_of_getElem? (i := 3) rfl
set_option maxHeartbeats 4000000 in
set_option maxRecDepth 100000 in
theorem c_X11_isTogether {g : ww_G} {l : Launch} {rM : Nat} {rTh : Nat} {rTe : Nat} {rPu : Nat} {rWh : Nat} {rGi : Nat} {rDr : Nat} {rTr : Nat} {rKn : Nat} {rRo : Nat} {rTx : Nat} {tn : Nat} {n : Nat} {N : Nat} {sy : Nat} {ez : Nat} {la : Int32} {ma : Int32} {x : Int64} {md : Prop} {rws : Nat} {sz : Nat} {a : Nat} {b : Nat} {k : Nat} (hn : (n = 4 ∧ N = 16) ∨ (n = 6 ∧ N = 36)) (ha : a < N) (hb : b < N) (hk : k < 3) : CT g l yX11_isTogether wsX11_isTogether (ww_rm 1) [.ref rM, .int (nI a), .int (nI b), .int (nI k)] ([(rM, .inr (12, [.int (nI tn), .int (nI n), .int (nI (n / 2)), .int (nI 2), .int (nI sy), .ref rTh, .int (nI ez), .int la, .int ma, .long x, .ref rTe, .int (bz md), .ref rPu, .ref rWh, .ref rGi, .ref rDr, .ref rTr, .ref rKn, .ref rRo, .int (nI rws), .int (nI sz), .ref rTx]))]) (S := Unit) (fun vv9 u => vv9 = some (.int (bz (uk n k a = uk n k b)))) (fun u => [(rM, .inr (12, [.int (nI tn), .int (nI n), .int (nI (n / 2)), .int (nI 2), .int (nI sy), .ref rTh, .int (nI ez), .int la, .int ma, .long x, .ref rTe, .int (bz md), .ref rPu, .ref rWh, .ref rGi, .ref rDr, .ref rTr, .ref rKn, .ref rRo, .int (nI rws), .int (nI sz), .ref rTx]))]) := by
  refine CT.of cX11_isTogether 4 (some .boolean) RX11 (by decide +kernel) rfl rfl (Nat.le_of_ble_eq_true rfl) ?_
  intro X hg hl C hret
  subst hg; subst hl
  show RW X 0 0 0 [(0, .ref rM), (1, .int (nI a)), (2, .int (nI b)), (3, .int (nI k))] [] [(rM, .inr (12, [.int (nI tn), .int (nI n), .int (nI (n / 2)), .int (nI 2), .int (nI sy), .ref rTh, .int (nI ez), .int la, .int ma, .long x, .ref rTe, .int (bz md), .ref rPu, .ref rWh, .ref rGi, .ref rDr, .ref rTr, .ref rKn, .ref rRo, .int (nI rws), .int (nI sz), .ref rTx]))]
  have e1 := dv_lt hn ha
  have e2 := dv_lt hn hb
  have e3 := md_lt (c := a) hn
  have e4 := md_lt (c := b) hn
  have e5 := Nat.div_le_self (a % n) (n / 2)
  have e6 := Nat.div_le_self (b % n) (n / 2)
  refine r_iload_n C dX11_isTogether_0 3 rfl rfl ?_
  refine r_if_ne (tgt := 25) C dX11_isTogether_1 (by decide) (fun h1 => ?_) (fun h1 => ?_)
  · have h1 : ¬ (k = 0) := fun e9 => h1 ((nI_eq (b := 0) (by omega) (by omega)).mpr e9)
    refine r_iload_n C dX11_isTogether_25 3 rfl rfl ?_
    refine r_iconst C dX11_isTogether_26 (v := nI 1) (by decide) ?_
    refine r_icmp_ne (tgt := 51) C dX11_isTogether_27 (by decide) (fun h27 => ?_) (fun h27 => ?_)
    · have h27 : ¬ (k = 1) := fun e9 => h27 ((nI_eq (by omega) (by omega)).mpr e9)
      refine r_iload_n C dX11_isTogether_51 1 rfl rfl ?_
      refine r_aload_n C dX11_isTogether_52 0 rfl rfl ?_
      refine r_get C dX11_isTogether_53 iX11_isTogether_X11 1 fX11_isTogether_45 0 rfl rfl (by decide) rfl ?_
      refine r_idiv C dX11_isTogether_56 (nI_ne0 (by omega) (by omega)) (v := nI (a / n)) (pk_div (by omega) (by omega) (by omega)) ?_
      refine r_aload_n C dX11_isTogether_57 0 rfl rfl ?_
      refine r_get C dX11_isTogether_58 iX11_isTogether_X11 3 fX11_isTogether_51 0 rfl rfl (by decide) rfl ?_
      refine r_idiv C dX11_isTogether_61 (nI_ne0 (by omega) (by omega)) (v := nI ((a / n) / 2)) (pk_div (by omega) (by omega) (by omega)) ?_
      refine r_iload_n C dX11_isTogether_62 2 rfl rfl ?_
      refine r_aload_n C dX11_isTogether_63 0 rfl rfl ?_
      refine r_get C dX11_isTogether_64 iX11_isTogether_X11 1 fX11_isTogether_45 0 rfl rfl (by decide) rfl ?_
      refine r_idiv C dX11_isTogether_67 (nI_ne0 (by omega) (by omega)) (v := nI (b / n)) (pk_div (by omega) (by omega) (by omega)) ?_
      refine r_aload_n C dX11_isTogether_68 0 rfl rfl ?_
      refine r_get C dX11_isTogether_69 iX11_isTogether_X11 3 fX11_isTogether_51 0 rfl rfl (by decide) rfl ?_
      refine r_idiv C dX11_isTogether_72 (nI_ne0 (by omega) (by omega)) (v := nI ((b / n) / 2)) (pk_div (by omega) (by omega) (by omega)) ?_
      refine r_icmp_ne (tgt := 105) C dX11_isTogether_73 (by decide) (fun h73 => ?_) (fun h73 => ?_)
      · have h73 : ¬ (((a / n) / 2) = ((b / n) / 2)) := fun e9 => h73 ((nI_eq (by omega) (by omega)).mpr e9)
        refine r_iconst C dX11_isTogether_105 (v := nI 0) (by decide) ?_
        refine r_top (y := bz (uk n k a = uk n k b)) ((bz_f (by rw [show k = 2 by omega]; exact fun q => h73 ((box_iff hn ha hb).mpr q).1)).symm) ?_
        exact hret _ _ _ () rfl (Or.inr ⟨_, rfl, dX11_isTogether_106, Or.inr ⟨rfl, bz_01 _⟩⟩)
      · have h73 : ((a / n) / 2) = ((b / n) / 2) := (nI_eq (by omega) (by omega)).mp h73
        refine r_iload_n C dX11_isTogether_76 1 rfl rfl ?_
        refine r_aload_n C dX11_isTogether_77 0 rfl rfl ?_
        refine r_get C dX11_isTogether_78 iX11_isTogether_X11 1 fX11_isTogether_45 0 rfl rfl (by decide) rfl ?_
        refine r_irem C dX11_isTogether_81 (nI_ne0 (by omega) (by omega)) (v := nI (a % n)) (pk_rem (by omega) (by omega) (by omega)) ?_
        refine r_aload_n C dX11_isTogether_82 0 rfl rfl ?_
        refine r_get C dX11_isTogether_83 iX11_isTogether_X11 2 fX11_isTogether_48 0 rfl rfl (by decide) rfl ?_
        refine r_idiv C dX11_isTogether_86 (nI_ne0 (by omega) (by omega)) (v := nI ((a % n) / (n / 2))) (pk_div (by omega) (by omega) (by omega)) ?_
        refine r_iload_n C dX11_isTogether_87 2 rfl rfl ?_
        refine r_aload_n C dX11_isTogether_88 0 rfl rfl ?_
        refine r_get C dX11_isTogether_89 iX11_isTogether_X11 1 fX11_isTogether_45 0 rfl rfl (by decide) rfl ?_
        refine r_irem C dX11_isTogether_92 (nI_ne0 (by omega) (by omega)) (v := nI (b % n)) (pk_rem (by omega) (by omega) (by omega)) ?_
        refine r_aload_n C dX11_isTogether_93 0 rfl rfl ?_
        refine r_get C dX11_isTogether_94 iX11_isTogether_X11 2 fX11_isTogether_48 0 rfl rfl (by decide) rfl ?_
        refine r_idiv C dX11_isTogether_97 (nI_ne0 (by omega) (by omega)) (v := nI ((b % n) / (n / 2))) (pk_div (by omega) (by omega) (by omega)) ?_
        refine r_icmp_ne (tgt := 105) C dX11_isTogether_98 (by decide) (fun h98 => ?_) (fun h98 => ?_)
        · have h98 : ¬ (((a % n) / (n / 2)) = ((b % n) / (n / 2))) := fun e9 => h98 ((nI_eq (by omega) (by omega)).mpr e9)
          refine r_iconst C dX11_isTogether_105 (v := nI 0) (by decide) ?_
          refine r_top (y := bz (uk n k a = uk n k b)) ((bz_f (by rw [show k = 2 by omega]; exact fun q => h98 ((box_iff hn ha hb).mpr q).2)).symm) ?_
          exact hret _ _ _ () rfl (Or.inr ⟨_, rfl, dX11_isTogether_106, Or.inr ⟨rfl, bz_01 _⟩⟩)
        · have h98 : ((a % n) / (n / 2)) = ((b % n) / (n / 2)) := (nI_eq (by omega) (by omega)).mp h98
          refine r_iconst C dX11_isTogether_101 (v := nI 1) (by decide) ?_
          refine r_goto (tgt := 106) C dX11_isTogether_102 (by decide) ?_
          refine r_top (y := bz (uk n k a = uk n k b)) ((bz_t (by rw [show k = 2 by omega]; exact (box_iff hn ha hb).mp ⟨h73, h98⟩)).symm) ?_
          exact hret _ _ _ () rfl (Or.inr ⟨_, rfl, dX11_isTogether_106, Or.inr ⟨rfl, bz_01 _⟩⟩)
    · have h27 : k = 1 := (nI_eq (by omega) (by omega)).mp h27
      refine r_iload_n C dX11_isTogether_30 1 rfl rfl ?_
      refine r_aload_n C dX11_isTogether_31 0 rfl rfl ?_
      refine r_get C dX11_isTogether_32 iX11_isTogether_X11 1 fX11_isTogether_45 0 rfl rfl (by decide) rfl ?_
      refine r_irem C dX11_isTogether_35 (nI_ne0 (by omega) (by omega)) (v := nI (a % n)) (pk_rem (by omega) (by omega) (by omega)) ?_
      refine r_iload_n C dX11_isTogether_36 2 rfl rfl ?_
      refine r_aload_n C dX11_isTogether_37 0 rfl rfl ?_
      refine r_get C dX11_isTogether_38 iX11_isTogether_X11 1 fX11_isTogether_45 0 rfl rfl (by decide) rfl ?_
      refine r_irem C dX11_isTogether_41 (nI_ne0 (by omega) (by omega)) (v := nI (b % n)) (pk_rem (by omega) (by omega) (by omega)) ?_
      refine r_icmp_ne (tgt := 49) C dX11_isTogether_42 (by decide) (fun h42 => ?_) (fun h42 => ?_)
      · have h42 : ¬ ((a % n) = (b % n)) := fun e9 => h42 ((nI_eq (by omega) (by omega)).mpr e9)
        refine r_iconst C dX11_isTogether_49 (v := nI 0) (by decide) ?_
        refine r_top (y := bz (uk n k a = uk n k b)) ((bz_f (by rw [h27]; exact h42)).symm) ?_
        exact hret _ _ _ () rfl (Or.inr ⟨_, rfl, dX11_isTogether_50, Or.inr ⟨rfl, bz_01 _⟩⟩)
      · have h42 : (a % n) = (b % n) := (nI_eq (by omega) (by omega)).mp h42
        refine r_iconst C dX11_isTogether_45 (v := nI 1) (by decide) ?_
        refine r_goto (tgt := 50) C dX11_isTogether_46 (by decide) ?_
        refine r_top (y := bz (uk n k a = uk n k b)) ((bz_t (by rw [h27]; exact h42)).symm) ?_
        exact hret _ _ _ () rfl (Or.inr ⟨_, rfl, dX11_isTogether_50, Or.inr ⟨rfl, bz_01 _⟩⟩)
  · have h1 : k = 0 := (nI_eq (b := 0) (by omega) (by omega)).mp h1
    refine r_iload_n C dX11_isTogether_4 1 rfl rfl ?_
    refine r_aload_n C dX11_isTogether_5 0 rfl rfl ?_
    refine r_get C dX11_isTogether_6 iX11_isTogether_X11 1 fX11_isTogether_45 0 rfl rfl (by decide) rfl ?_
    refine r_idiv C dX11_isTogether_9 (nI_ne0 (by omega) (by omega)) (v := nI (a / n)) (pk_div (by omega) (by omega) (by omega)) ?_
    refine r_iload_n C dX11_isTogether_10 2 rfl rfl ?_
    refine r_aload_n C dX11_isTogether_11 0 rfl rfl ?_
    refine r_get C dX11_isTogether_12 iX11_isTogether_X11 1 fX11_isTogether_45 0 rfl rfl (by decide) rfl ?_
    refine r_idiv C dX11_isTogether_15 (nI_ne0 (by omega) (by omega)) (v := nI (b / n)) (pk_div (by omega) (by omega) (by omega)) ?_
    refine r_icmp_ne (tgt := 23) C dX11_isTogether_16 (by decide) (fun h16 => ?_) (fun h16 => ?_)
    · have h16 : ¬ ((a / n) = (b / n)) := fun e9 => h16 ((nI_eq (by omega) (by omega)).mpr e9)
      refine r_iconst C dX11_isTogether_23 (v := nI 0) (by decide) ?_
      refine r_top (y := bz (uk n k a = uk n k b)) ((bz_f (by rw [h1]; exact h16)).symm) ?_
      exact hret _ _ _ () rfl (Or.inr ⟨_, rfl, dX11_isTogether_24, Or.inr ⟨rfl, bz_01 _⟩⟩)
    · have h16 : (a / n) = (b / n) := (nI_eq (by omega) (by omega)).mp h16
      refine r_iconst C dX11_isTogether_19 (v := nI 1) (by decide) ?_
      refine r_goto (tgt := 24) C dX11_isTogether_20 (by decide) ?_
      refine r_top (y := bz (uk n k a = uk n k b)) ((bz_t (by rw [h1]; exact h16)).symm) ?_
      exact hret _ _ _ () rfl (Or.inr ⟨_, rfl, dX11_isTogether_24, Or.inr ⟨rfl, bz_01 _⟩⟩)
theorem fX11_turned_45 : Cond.fieldLink RX11 45 (TX11 1).1 (TX11 1).2.1 (TX11 1).2.2.1 ∈ wsX11_turned := List.mem_of_getElem? (i := 1) rfl
theorem iX11_turned_X11 : ∀ w ∈ wsX110, w ∈ wsX11_turned := by decide +kernel
theorem fX11_turned_61 : Cond.fieldLink RX11 61 (TX11 4).1 (TX11 4).2.1 (TX11 4).2.2.1 ∈ wsX11_turned := List.mem_of_getElem? (i := 2) rfl
set_option maxHeartbeats 4000000 in
set_option maxRecDepth 100000 in
theorem c_X11_turned {g : ww_G} {l : Launch} {rM : Nat} {rTh : Nat} {rTe : Nat} {rPu : Nat} {rWh : Nat} {rGi : Nat} {rDr : Nat} {rTr : Nat} {rKn : Nat} {rRo : Nat} {rTx : Nat} {tn : Nat} {n : Nat} {N : Nat} {sy : Nat} {ez : Nat} {la : Int32} {ma : Int32} {x : Int64} {md : Prop} {rws : Nat} {sz : Nat} {c : Nat} (hn : (n = 4 ∧ N = 16) ∨ (n = 6 ∧ N = 36)) (hsy : sy < 4) (hc : c < N) : CT g l yX11_turned wsX11_turned (ww_rm 1) [.ref rM, .int (nI c)] ([(rM, .inr (12, [.int (nI tn), .int (nI n), .int (nI (n / 2)), .int (nI 2), .int (nI sy), .ref rTh, .int (nI ez), .int la, .int ma, .long x, .ref rTe, .int (bz md), .ref rPu, .ref rWh, .ref rGi, .ref rDr, .ref rTr, .ref rKn, .ref rRo, .int (nI rws), .int (nI sz), .ref rTx]))]) (S := Unit) (fun vv9 u => vv9 = some (.int (nI (mv n sy c)))) (fun u => [(rM, .inr (12, [.int (nI tn), .int (nI n), .int (nI (n / 2)), .int (nI 2), .int (nI sy), .ref rTh, .int (nI ez), .int la, .int ma, .long x, .ref rTe, .int (bz md), .ref rPu, .ref rWh, .ref rGi, .ref rDr, .ref rTr, .ref rKn, .ref rRo, .int (nI rws), .int (nI sz), .ref rTx]))]) := by
  refine CT.of cX11_turned 4 (some .int) RX11 (by decide +kernel) rfl rfl (Nat.le_of_ble_eq_true rfl) ?_
  intro X hg hl C hret
  subst hg; subst hl
  show RW X 0 0 0 [(0, .ref rM), (1, .int (nI c))] [] [(rM, .inr (12, [.int (nI tn), .int (nI n), .int (nI (n / 2)), .int (nI 2), .int (nI sy), .ref rTh, .int (nI ez), .int la, .int ma, .long x, .ref rTe, .int (bz md), .ref rPu, .ref rWh, .ref rGi, .ref rDr, .ref rTr, .ref rKn, .ref rRo, .int (nI rws), .int (nI sz), .ref rTx]))]
  have hdv := dv_lt hn hc
  have hmd := md_lt (c := c) hn
  have hb1 : n * (n - 1 - c / n) + n < 2147483648 := by rcases hn with ⟨rfl, rfl⟩ | ⟨rfl, rfl⟩ <;> omega
  refine r_iload_n C dX11_turned_0 1 rfl rfl ?_
  refine r_aload_n C dX11_turned_1 0 rfl rfl ?_
  refine r_get C dX11_turned_2 iX11_turned_X11 1 fX11_turned_45 0 rfl rfl (by decide) rfl ?_
  refine r_irem C dX11_turned_5 (nI_ne0 (by omega) (by omega)) (v := nI (c % n)) (pk_rem (by omega) (by omega) (by omega)) ?_
  refine r_istore_n C dX11_turned_6 rfl (by decide) [1, 2, 0] (lv' := [(0, .ref rM), (1, .int (nI c)), (2, .int (nI (c % n)))]) rfl ?_
  refine r_iload_n C dX11_turned_7 1 rfl rfl ?_
  refine r_aload_n C dX11_turned_8 0 rfl rfl ?_
  refine r_get C dX11_turned_9 iX11_turned_X11 1 fX11_turned_45 0 rfl rfl (by decide) rfl ?_
  refine r_idiv C dX11_turned_12 (nI_ne0 (by omega) (by omega)) (v := nI (c / n)) (pk_div (by omega) (by omega) (by omega)) ?_
  refine r_istore_n C dX11_turned_13 rfl (by decide) [1, 2, 3, 0] (lv' := [(0, .ref rM), (1, .int (nI c)), (2, .int (nI (c % n))), (3, .int (nI (c / n)))]) rfl ?_
  refine r_aload_n C dX11_turned_14 0 rfl rfl ?_
  refine r_get C dX11_turned_15 iX11_turned_X11 4 fX11_turned_61 0 rfl rfl (by decide) rfl ?_
  rcases (show sy = 0 ∨ sy = 1 ∨ sy = 2 ∨ sy = 3 by omega) with rfl | rfl | rfl | rfl
  · refine r_tsOut (tgt := 99) C dX11_turned_18 (by decide) (by decide) ?_
    refine r_iload_n C dX11_turned_99 1 rfl rfl ?_
    refine r_top (y := nI (mv n 0 c)) rfl ?_
    exact hret _ _ _ () rfl (Or.inr ⟨_, rfl, dX11_turned_100, Or.inl rfl⟩)
  · refine r_tsIn (tgt := 44) C dX11_turned_18 (by decide) (by decide) (off := 26) (by decide) (by decide) ?_
    refine r_aload_n C dX11_turned_44 0 rfl rfl ?_
    refine r_get C dX11_turned_45 iX11_turned_X11 1 fX11_turned_45 0 rfl rfl (by decide) rfl ?_
    refine r_aload_n C dX11_turned_48 0 rfl rfl ?_
    refine r_get C dX11_turned_49 iX11_turned_X11 1 fX11_turned_45 0 rfl rfl (by decide) rfl ?_
    refine r_iconst C dX11_turned_52 (v := nI 1) (by decide) ?_
    refine r_isub C dX11_turned_53 (v := nI (n - 1)) (pk_sub (by omega)) ?_
    refine r_iload_n C dX11_turned_54 3 rfl rfl ?_
    refine r_isub C dX11_turned_55 (v := nI ((n - 1) - (c / n))) (pk_sub (by omega)) ?_
    refine r_imul C dX11_turned_56 (v := nI (n * ((n - 1) - (c / n)))) (pk_mul _ _) ?_
    refine r_aload_n C dX11_turned_57 0 rfl rfl ?_
    refine r_get C dX11_turned_58 iX11_turned_X11 1 fX11_turned_45 0 rfl rfl (by decide) rfl ?_
    refine r_iadd C dX11_turned_61 (v := nI ((n * ((n - 1) - (c / n))) + n)) (nI_add _ _) ?_
    refine r_iconst C dX11_turned_62 (v := nI 1) (by decide) ?_
    refine r_isub C dX11_turned_63 (v := nI (((n * ((n - 1) - (c / n))) + n) - 1)) (pk_sub (by omega)) ?_
    refine r_iload_n C dX11_turned_64 2 rfl rfl ?_
    refine r_isub C dX11_turned_65 (v := nI ((((n * ((n - 1) - (c / n))) + n) - 1) - (c % n))) (pk_sub (by omega)) ?_
    refine r_top (y := nI (mv n 1 c)) (congrArg nI (by show _ = n * (n - 1 - c / n) + (n - 1) - c % n; omega)) ?_
    exact hret _ _ _ () rfl (Or.inr ⟨_, rfl, dX11_turned_66, Or.inl rfl⟩)
  · refine r_tsIn (tgt := 67) C dX11_turned_18 (by decide) (by decide) (off := 49) (by decide) (by decide) ?_
    refine r_aload_n C dX11_turned_67 0 rfl rfl ?_
    refine r_get C dX11_turned_68 iX11_turned_X11 1 fX11_turned_45 0 rfl rfl (by decide) rfl ?_
    refine r_iload_n C dX11_turned_71 3 rfl rfl ?_
    refine r_imul C dX11_turned_72 (v := nI (n * (c / n))) (pk_mul _ _) ?_
    refine r_aload_n C dX11_turned_73 0 rfl rfl ?_
    refine r_get C dX11_turned_74 iX11_turned_X11 1 fX11_turned_45 0 rfl rfl (by decide) rfl ?_
    refine r_iadd C dX11_turned_77 (v := nI ((n * (c / n)) + n)) (nI_add _ _) ?_
    refine r_iconst C dX11_turned_78 (v := nI 1) (by decide) ?_
    refine r_isub C dX11_turned_79 (v := nI (((n * (c / n)) + n) - 1)) (pk_sub (by omega)) ?_
    refine r_iload_n C dX11_turned_80 2 rfl rfl ?_
    refine r_isub C dX11_turned_81 (v := nI ((((n * (c / n)) + n) - 1) - (c % n))) (pk_sub (by omega)) ?_
    refine r_top (y := nI (mv n 2 c)) (congrArg nI (by show _ = n * (c / n) + (n - 1) - c % n; omega)) ?_
    exact hret _ _ _ () rfl (Or.inr ⟨_, rfl, dX11_turned_82, Or.inl rfl⟩)
  · refine r_tsIn (tgt := 83) C dX11_turned_18 (by decide) (by decide) (off := 65) (by decide) (by decide) ?_
    refine r_aload_n C dX11_turned_83 0 rfl rfl ?_
    refine r_get C dX11_turned_84 iX11_turned_X11 1 fX11_turned_45 0 rfl rfl (by decide) rfl ?_
    refine r_iload_n C dX11_turned_87 2 rfl rfl ?_
    refine r_imul C dX11_turned_88 (v := nI (n * (c % n))) (pk_mul _ _) ?_
    refine r_aload_n C dX11_turned_89 0 rfl rfl ?_
    refine r_get C dX11_turned_90 iX11_turned_X11 1 fX11_turned_45 0 rfl rfl (by decide) rfl ?_
    refine r_iadd C dX11_turned_93 (v := nI ((n * (c % n)) + n)) (nI_add _ _) ?_
    refine r_iconst C dX11_turned_94 (v := nI 1) (by decide) ?_
    refine r_isub C dX11_turned_95 (v := nI (((n * (c % n)) + n) - 1)) (pk_sub (by omega)) ?_
    refine r_iload_n C dX11_turned_96 3 rfl rfl ?_
    refine r_isub C dX11_turned_97 (v := nI ((((n * (c % n)) + n) - 1) - (c / n))) (pk_sub (by omega)) ?_
    refine r_top (y := nI (mv n 3 c)) (congrArg nI (by show _ = n * (c % n) + (n - 1) - c / n; omega)) ?_
    exact hret _ _ _ () rfl (Or.inr ⟨_, rfl, dX11_turned_98, Or.inl rfl⟩)

set_option maxHeartbeats 4000000 in
set_option maxRecDepth 100000 in
theorem c_X11_leastOf {g : ww_G} {l : Launch} {rM : Nat} {rTh : Nat} {rTe : Nat} {rPu : Nat} {rWh : Nat} {rGi : Nat} {rDr : Nat} {rTr : Nat} {rKn : Nat} {rRo : Nat} {rTx : Nat} {tn : Nat} {n : Nat} {N : Nat} {sy : Nat} {ez : Nat} {la : Int32} {ma : Int32} {x : Int64} {md : Prop} {rws : Nat} {sz : Nat} {c : Nat} (hn : (n = 4 ∧ N = 16) ∨ (n = 6 ∧ N = 36)) (hsy : sy < 4) (hc : c < N) : CT g l yX11_leastOf wsX11_leastOf (ww_rm 2) [.ref rM, .int (nI c)] ([(rM, .inr (12, [.int (nI tn), .int (nI n), .int (nI (n / 2)), .int (nI 2), .int (nI sy), .ref rTh, .int (nI ez), .int la, .int ma, .long x, .ref rTe, .int (bz md), .ref rPu, .ref rWh, .ref rGi, .ref rDr, .ref rTr, .ref rKn, .ref rRo, .int (nI rws), .int (nI sz), .ref rTx]))]) (S := Unit) (fun vv9 u => vv9 = some (.int (nI (lfS n sy c)))) (fun u => [(rM, .inr (12, [.int (nI tn), .int (nI n), .int (nI (n / 2)), .int (nI 2), .int (nI sy), .ref rTh, .int (nI ez), .int la, .int ma, .long x, .ref rTe, .int (bz md), .ref rPu, .ref rWh, .ref rGi, .ref rDr, .ref rTr, .ref rKn, .ref rRo, .int (nI rws), .int (nI sz), .ref rTx]))]) := by
  refine CT.of cX11_leastOf 5 (some .int) RX11 (by decide +kernel) rfl rfl (Nat.le_of_ble_eq_true rfl) ?_
  intro X hg hl C hret
  subst hg; subst hl
  show RW X 0 0 0 [(0, .ref rM), (1, .int (nI c))] [] [(rM, .inr (12, [.int (nI tn), .int (nI n), .int (nI (n / 2)), .int (nI 2), .int (nI sy), .ref rTh, .int (nI ez), .int la, .int ma, .long x, .ref rTe, .int (bz md), .ref rPu, .ref rWh, .ref rGi, .ref rDr, .ref rTr, .ref rKn, .ref rRo, .int (nI rws), .int (nI sz), .ref rTx]))]
  refine r_iload_n C dX11_leastOf_0 1 rfl rfl ?_
  refine r_istore_n C dX11_leastOf_1 rfl (by decide) [1, 2, 0] (lv' := [(0, .ref rM), (1, .int (nI c)), (2, .int (nI c))]) rfl ?_
  refine r_iload_n C dX11_leastOf_2 1 rfl rfl ?_
  refine r_istore_n C dX11_leastOf_3 rfl (by decide) [1, 2, 3, 0] (lv' := [(0, .ref rM), (1, .int (nI c)), (2, .int (nI c)), (3, .int (nI c))]) rfl ?_
  refine r_iconst C dX11_leastOf_4 (v := nI 0) (by decide) ?_
  refine r_istore C dX11_leastOf_5 (by decide) [1, 2, 3, 4, 0] (lv' := [(0, .ref rM), (1, .int (nI c)), (2, .int (nI c)), (3, .int (nI c)), (4, .int (nI 0))]) rfl ?_
  have L7 : ∀ (d7 : Nat) (t : Nat), (3 - t) < d7 → (t ≤ 3) → RW X 0 0 7 [(0, .ref rM), (1, .int (nI c)), (2, .int (nI ((orb n sy c t).2))), (3, .int (nI ((orb n sy c t).1))), (4, .int (nI t))] [] [(rM, .inr (12, [.int (nI tn), .int (nI n), .int (nI (n / 2)), .int (nI 2), .int (nI sy), .ref rTh, .int (nI ez), .int la, .int ma, .long x, .ref rTe, .int (bz md), .ref rPu, .ref rWh, .ref rGi, .ref rDr, .ref rTr, .ref rKn, .ref rRo, .int (nI rws), .int (nI sz), .ref rTx]))] := by
    intro d7
    induction d7 with
    | zero => intro t hd7; exact absurd hd7 (Nat.not_lt_zero _)
    | succ d7 ih7 =>
      intro t hd7 ht
      refine r_iload C dX11_leastOf_7 4 rfl ?_
      refine r_iconst C dX11_leastOf_9 (v := nI 3) (by decide) ?_
      refine r_icmp_ge (tgt := 36) C dX11_leastOf_10 (by decide) (fun h10 => ?_) (fun h10 => ?_)
      · have h10 : 3 ≤ t := (nI_leI (by omega) (by omega)).mp h10
        refine r_iload_n C dX11_leastOf_36 2 rfl rfl ?_
        refine r_top (y := nI (lfS n sy c)) (congrArg nI (by rw [show t = 3 by omega]; exact orb_34 hn hsy hc)) ?_
        exact hret _ _ _ () rfl (Or.inr ⟨_, rfl, dX11_leastOf_37, Or.inl rfl⟩)
      · have h10 : ¬ (3 ≤ t) := fun e9 => h10 ((nI_leI (by omega) (by omega)).mpr e9)
        refine r_aload_n C dX11_leastOf_13 0 rfl rfl ?_
        refine r_iload_n C dX11_leastOf_14 3 rfl rfl ?_
        refine r_callV0 (n := 1) (ws' := fun (u : Unit) => [(rM, .inr (12, [.int (nI tn), .int (nI n), .int (nI (n / 2)), .int (nI 2), .int (nI sy), .ref rTh, .int (nI ez), .int la, .int ma, .long x, .ref rTe, .int (bz md), .ref rPu, .ref rWh, .ref rGi, .ref rDr, .ref rTr, .ref rKn, .ref rRo, .int (nI rws), .int (nI sz), .ref rTx]))]) C dX11_leastOf_15 (c_X11_turned (g := X.1) (l := X.2.2.1) (rM := rM) (rTh := rTh) (rTe := rTe) (rPu := rPu) (rWh := rWh) (rGi := rGi) (rDr := rDr) (rTr := rTr) (rKn := rKn) (rRo := rRo) (rTx := rTx) (tn := tn) (n := n) (N := N) (sy := sy) (ez := ez) (la := la) (ma := ma) (x := x) (md := md) (rws := rws) (sz := sz) (c := (orb n sy c t).1) (hn := (by first | assumption | omega)) (hsy := (by first | assumption | omega)) (hc := ((orb_lt hn hc t).1))) gX11_leastOf_X11_turned rfl (by decide +kernel) rfl ⟨Nat.le_of_ble_eq_true rfl, Nat.le_of_ble_eq_true rfl⟩ ⟨rfl, rfl⟩ ⟨Nat.zero_le _, Nat.zero_le _⟩ (rest := []) rfl (Nat.le_of_ble_eq_true rfl) 0 rfl rfl [0] (by decide) rfl (fun u => Eq.trans (b := [rM]) rfl rfl) (fun u => rfl) (fun v u hp => ?_)
        obtain rfl := hp
        show RW X 0 0 18 [(0, .ref rM), (1, .int (nI c)), (2, .int (nI ((orb n sy c t).2))), (3, .int (nI ((orb n sy c t).1))), (4, .int (nI t))] [.int (nI (mv n sy ((orb n sy c t).1)))] [(rM, .inr (12, [.int (nI tn), .int (nI n), .int (nI (n / 2)), .int (nI 2), .int (nI sy), .ref rTh, .int (nI ez), .int la, .int ma, .long x, .ref rTe, .int (bz md), .ref rPu, .ref rWh, .ref rGi, .ref rDr, .ref rTr, .ref rKn, .ref rRo, .int (nI rws), .int (nI sz), .ref rTx]))]
        have hq1 := (orb_lt (k := sy) hn hc t).2
        have hq2 := mv_lt (k := sy) hn (orb_lt (k := sy) hn hc t).1
        refine r_istore_n C dX11_leastOf_18 rfl (by decide) [1, 2, 3, 0, 4] (lv' := [(0, .ref rM), (1, .int (nI c)), (2, .int (nI ((orb n sy c t).2))), (3, .int (nI (mv n sy ((orb n sy c t).1)))), (4, .int (nI t))]) rfl ?_
        refine r_iload_n C dX11_leastOf_19 3 rfl rfl ?_
        refine r_iload_n C dX11_leastOf_20 2 rfl rfl ?_
        refine r_icmp_ge (tgt := 28) C dX11_leastOf_21 (by decide) (fun h21 => ?_) (fun h21 => ?_)
        · have h21 : ((orb n sy c t).2) ≤ (mv n sy ((orb n sy c t).1)) := (nI_leI (by omega) (by omega)).mp h21
          refine r_iload_n C dX11_leastOf_28 2 rfl rfl ?_
          refine r_top (y := nI (orb n sy c (t + 1)).2) (congrArg nI (by show _ = min (orb n sy c t).2 (mv n sy (orb n sy c t).1); omega)) ?_
          refine r_istore_n C dX11_leastOf_29 rfl (by decide) [1, 2, 0, 3, 4] (lv' := [(0, .ref rM), (1, .int (nI c)), (2, .int (nI ((orb n sy c (t + 1)).2))), (3, .int (nI (mv n sy ((orb n sy c t).1)))), (4, .int (nI t))]) rfl ?_
          refine r_iinc C dX11_leastOf_30 4 rfl (v := nI (t + 1)) (nI_add _ _) (by decide) [1, 2, 3, 4, 0] (lv' := [(0, .ref rM), (1, .int (nI c)), (2, .int (nI ((orb n sy c (t + 1)).2))), (3, .int (nI (mv n sy ((orb n sy c t).1)))), (4, .int (nI (t + 1)))]) rfl ?_
          refine r_goto (tgt := 7) C dX11_leastOf_33 (by decide) ?_
          exact ih7 (t + 1) (by omega) (by omega)
        · have h21 : ¬ (((orb n sy c t).2) ≤ (mv n sy ((orb n sy c t).1))) := fun e9 => h21 ((nI_leI (by omega) (by omega)).mpr e9)
          refine r_iload_n C dX11_leastOf_24 3 rfl rfl ?_
          refine r_goto (tgt := 29) C dX11_leastOf_25 (by decide) ?_
          refine r_top (y := nI (orb n sy c (t + 1)).2) (congrArg nI (by show _ = min (orb n sy c t).2 (mv n sy (orb n sy c t).1); omega)) ?_
          refine r_istore_n C dX11_leastOf_29 rfl (by decide) [1, 2, 0, 3, 4] (lv' := [(0, .ref rM), (1, .int (nI c)), (2, .int (nI ((orb n sy c (t + 1)).2))), (3, .int (nI (mv n sy ((orb n sy c t).1)))), (4, .int (nI t))]) rfl ?_
          refine r_iinc C dX11_leastOf_30 4 rfl (v := nI (t + 1)) (nI_add _ _) (by decide) [1, 2, 3, 4, 0] (lv' := [(0, .ref rM), (1, .int (nI c)), (2, .int (nI ((orb n sy c (t + 1)).2))), (3, .int (nI (mv n sy ((orb n sy c t).1)))), (4, .int (nI (t + 1)))]) rfl ?_
          refine r_goto (tgt := 7) C dX11_leastOf_33 (by decide) ?_
          exact ih7 (t + 1) (by omega) (by omega)
  exact L7 ((3 - 0) + 1) 0 (Nat.lt_succ_self _) (by omega)
theorem fX11_hasTheme_7 : Cond.fieldLink RX11 7 (TX11 5).1 (TX11 5).2.1 (TX11 5).2.2.1 ∈ wsX11_hasTheme := List.mem_of_getElem? (i := 1) rfl
theorem iX11_hasTheme_X11 : ∀ w ∈ wsX110, w ∈ wsX11_hasTheme := by decide +kernel
set_option maxHeartbeats 4000000 in
set_option maxRecDepth 100000 in
theorem c_X11_hasTheme {g : ww_G} {l : Launch} {rM : Nat} {rTh : Nat} {rTe : Nat} {rPu : Nat} {rWh : Nat} {rGi : Nat} {rDr : Nat} {rTr : Nat} {rKn : Nat} {rRo : Nat} {rTx : Nat} {tn : Nat} {n : Nat} {N : Nat} {sy : Nat} {ez : Nat} {la : Int32} {ma : Int32} {x : Int64} {md : Prop} {rws : Nat} {sz : Nat} {th : Nat → Nat} {ls : Nat} {w : Nat} (hn : (n = 4 ∧ N = 16) ∨ (n = 6 ∧ N = 36)) (hsy : sy < 4) (hth : ∀ c, th c < 3) (hls : ls < N) (hw : w < 3) : CT g l yX11_hasTheme wsX11_hasTheme (ww_rm 3) [.ref rM, .int (nI ls), .int (nI w)] ([(rM, .inr (12, [.int (nI tn), .int (nI n), .int (nI (n / 2)), .int (nI 2), .int (nI sy), .ref rTh, .int (nI ez), .int la, .int ma, .long x, .ref rTe, .int (bz md), .ref rPu, .ref rWh, .ref rGi, .ref rDr, .ref rTr, .ref rKn, .ref rRo, .int (nI rws), .int (nI sz), .ref rTx])), (rTh, .inl (g.2.1, 36, .inl (nO th)))]) (S := Unit) (fun vv9 u => vv9 = some (.int (bz (∃ d, d < N ∧ th d = w ∧ lfS n sy d = ls)))) (fun u => [(rM, .inr (12, [.int (nI tn), .int (nI n), .int (nI (n / 2)), .int (nI 2), .int (nI sy), .ref rTh, .int (nI ez), .int la, .int ma, .long x, .ref rTe, .int (bz md), .ref rPu, .ref rWh, .ref rGi, .ref rDr, .ref rTr, .ref rKn, .ref rRo, .int (nI rws), .int (nI sz), .ref rTx])), (rTh, .inl (g.2.1, 36, .inl (nO th)))]) := by
  refine CT.of cX11_hasTheme 4 (some .boolean) RX11 (by decide +kernel) rfl rfl (Nat.le_of_ble_eq_true rfl) ?_
  intro X hg hl C hret
  subst hg; subst hl
  show RW X 0 0 0 [(0, .ref rM), (1, .int (nI ls)), (2, .int (nI w))] [] [(rM, .inr (12, [.int (nI tn), .int (nI n), .int (nI (n / 2)), .int (nI 2), .int (nI sy), .ref rTh, .int (nI ez), .int la, .int ma, .long x, .ref rTe, .int (bz md), .ref rPu, .ref rWh, .ref rGi, .ref rDr, .ref rTr, .ref rKn, .ref rRo, .int (nI rws), .int (nI sz), .ref rTx])), (rTh, .inl (X.1.2.1, 36, .inl (nO th)))]
  refine r_iconst C dX11_hasTheme_0 (v := nI 0) (by decide) ?_
  refine r_istore_n C dX11_hasTheme_1 rfl (by decide) [1, 2, 3, 0] (lv' := [(0, .ref rM), (1, .int (nI ls)), (2, .int (nI w)), (3, .int (nI 0))]) rfl ?_
  have L2 : ∀ (d2 : Nat) (i : Nat), (N - i) < d2 → (i ≤ N) → (∀ d, d < i → ¬ (th d = w ∧ lfS n sy d = ls)) → RW X 0 0 2 [(0, .ref rM), (1, .int (nI ls)), (2, .int (nI w)), (3, .int (nI i))] [] [(rM, .inr (12, [.int (nI tn), .int (nI n), .int (nI (n / 2)), .int (nI 2), .int (nI sy), .ref rTh, .int (nI ez), .int la, .int ma, .long x, .ref rTe, .int (bz md), .ref rPu, .ref rWh, .ref rGi, .ref rDr, .ref rTr, .ref rKn, .ref rRo, .int (nI rws), .int (nI sz), .ref rTx])), (rTh, .inl (X.1.2.1, 36, .inl (nO th)))] := by
    intro d2
    induction d2 with
    | zero => intro i hd2; exact absurd hd2 (Nat.not_lt_zero _)
    | succ d2 ih2 =>
      intro i hd2 hi hne
      refine r_iload_n C dX11_hasTheme_2 3 rfl rfl ?_
      refine r_aload_n C dX11_hasTheme_3 0 rfl rfl ?_
      refine r_callV0 (n := 0) (ws' := fun (u : Unit) => [(rM, .inr (12, [.int (nI tn), .int (nI n), .int (nI (n / 2)), .int (nI 2), .int (nI sy), .ref rTh, .int (nI ez), .int la, .int ma, .long x, .ref rTe, .int (bz md), .ref rPu, .ref rWh, .ref rGi, .ref rDr, .ref rTr, .ref rKn, .ref rRo, .int (nI rws), .int (nI sz), .ref rTx])), (rTh, .inl (X.1.2.1, 36, .inl (nO th)))]) C dX11_hasTheme_4 (c_X11_cells (g := X.1) (l := X.2.2.1) (rM := rM) (rTh := rTh) (rTe := rTe) (rPu := rPu) (rWh := rWh) (rGi := rGi) (rDr := rDr) (rTr := rTr) (rKn := rKn) (rRo := rRo) (rTx := rTx) (tn := tn) (n := n) (N := N) (sy := sy) (ez := ez) (la := la) (ma := ma) (x := x) (md := md) (rws := rws) (sz := sz) (hn := (by first | assumption | omega))) gX11_hasTheme_X11_cells rfl (by decide +kernel) rfl ⟨Nat.le_of_ble_eq_true rfl, Nat.le_of_ble_eq_true rfl⟩ ⟨rfl, rfl⟩ ⟨Nat.zero_le _, Nat.zero_le _⟩ (rest := [.int (nI i)]) rfl (Nat.le_of_ble_eq_true rfl) 0 rfl rfl [0] (by decide) rfl (fun u => Eq.trans (b := [rM]) rfl rfl) (fun u => rfl) (fun v u hp => ?_)
      obtain rfl := hp
      show RW X 0 0 7 [(0, .ref rM), (1, .int (nI ls)), (2, .int (nI w)), (3, .int (nI i))] [.int (nI N), .int (nI i)] [(rM, .inr (12, [.int (nI tn), .int (nI n), .int (nI (n / 2)), .int (nI 2), .int (nI sy), .ref rTh, .int (nI ez), .int la, .int ma, .long x, .ref rTe, .int (bz md), .ref rPu, .ref rWh, .ref rGi, .ref rDr, .ref rTr, .ref rKn, .ref rRo, .int (nI rws), .int (nI sz), .ref rTx])), (rTh, .inl (X.1.2.1, 36, .inl (nO th)))]
      refine r_icmp_ge (tgt := 37) C dX11_hasTheme_7 (by decide) (fun h7 => ?_) (fun h7 => ?_)
      · have h7 : N ≤ i := (nI_leI (by omega) (by omega)).mp h7
        refine r_iconst C dX11_hasTheme_37 (v := nI 0) (by decide) ?_
        refine r_top (y := bz (∃ d, d < N ∧ th d = w ∧ lfS n sy d = ls)) ((bz_f (fun ⟨d, q1, q2⟩ => hne d (by omega) q2)).symm) ?_
        exact hret _ _ _ () rfl (Or.inr ⟨_, rfl, dX11_hasTheme_38, Or.inr ⟨rfl, bz_01 _⟩⟩)
      · have h7 : ¬ (N ≤ i) := fun e9 => h7 ((nI_leI (by omega) (by omega)).mpr e9)
        refine r_aload_n C dX11_hasTheme_10 0 rfl rfl ?_
        refine r_iload_n C dX11_hasTheme_11 3 rfl rfl ?_
        refine r_callV0 (n := 1) (ws' := fun (u : Unit) => [(rM, .inr (12, [.int (nI tn), .int (nI n), .int (nI (n / 2)), .int (nI 2), .int (nI sy), .ref rTh, .int (nI ez), .int la, .int ma, .long x, .ref rTe, .int (bz md), .ref rPu, .ref rWh, .ref rGi, .ref rDr, .ref rTr, .ref rKn, .ref rRo, .int (nI rws), .int (nI sz), .ref rTx])), (rTh, .inl (X.1.2.1, 36, .inl (nO th)))]) C dX11_hasTheme_12 (c_X11_leastOf (g := X.1) (l := X.2.2.1) (rM := rM) (rTh := rTh) (rTe := rTe) (rPu := rPu) (rWh := rWh) (rGi := rGi) (rDr := rDr) (rTr := rTr) (rKn := rKn) (rRo := rRo) (rTx := rTx) (tn := tn) (n := n) (N := N) (sy := sy) (ez := ez) (la := la) (ma := ma) (x := x) (md := md) (rws := rws) (sz := sz) (c := i) (hn := (by first | assumption | omega)) (hsy := (by first | assumption | omega)) (hc := (by omega))) gX11_hasTheme_X11_leastOf rfl (by decide +kernel) rfl ⟨Nat.le_of_ble_eq_true rfl, Nat.le_of_ble_eq_true rfl⟩ ⟨rfl, rfl⟩ ⟨Nat.zero_le _, Nat.zero_le _⟩ (rest := []) rfl (Nat.le_of_ble_eq_true rfl) 0 rfl rfl [0] (by decide) rfl (fun u => Eq.trans (b := [rM]) rfl rfl) (fun u => rfl) (fun v u hp => ?_)
        obtain rfl := hp
        show RW X 0 0 15 [(0, .ref rM), (1, .int (nI ls)), (2, .int (nI w)), (3, .int (nI i))] [.int (nI (lfS n sy i))] [(rM, .inr (12, [.int (nI tn), .int (nI n), .int (nI (n / 2)), .int (nI 2), .int (nI sy), .ref rTh, .int (nI ez), .int la, .int ma, .long x, .ref rTe, .int (bz md), .ref rPu, .ref rWh, .ref rGi, .ref rDr, .ref rTr, .ref rKn, .ref rRo, .int (nI rws), .int (nI sz), .ref rTx])), (rTh, .inl (X.1.2.1, 36, .inl (nO th)))]
        have hll := lfS_lt (k := sy) hn (show i < N by omega)
        have hthi := hth i
        refine r_iload_n C dX11_hasTheme_15 1 rfl rfl ?_
        refine r_icmp_ne (tgt := 31) C dX11_hasTheme_16 (by decide) (fun h16 => ?_) (fun h16 => ?_)
        · have h16 : ¬ ((lfS n sy i) = ls) := fun e9 => h16 ((nI_eq (by omega) (by omega)).mpr e9)
          refine r_iinc C dX11_hasTheme_31 3 rfl (v := nI (i + 1)) (nI_add _ _) (by decide) [1, 2, 3, 0] (lv' := [(0, .ref rM), (1, .int (nI ls)), (2, .int (nI w)), (3, .int (nI (i + 1)))]) rfl ?_
          refine r_goto (tgt := 2) C dX11_hasTheme_34 (by decide) ?_
          exact ih2 (i + 1) (by omega) (by omega) (all_S hne (fun q => h16 q.2))
        · have h16 : (lfS n sy i) = ls := (nI_eq (by omega) (by omega)).mp h16
          refine r_aload_n C dX11_hasTheme_19 0 rfl rfl ?_
          refine r_get C dX11_hasTheme_20 iX11_hasTheme_X11 5 fX11_hasTheme_7 0 rfl rfl (by decide) rfl ?_
          refine r_iload_n C dX11_hasTheme_23 3 rfl rfl ?_
          refine r_iald C dX11_hasTheme_24 1 rfl (by omega) (by omega) ?_
          show RW X 0 0 25 [(0, .ref rM), (1, .int (nI ls)), (2, .int (nI w)), (3, .int (nI i))] [.int (nI (th i))] [(rM, .inr (12, [.int (nI tn), .int (nI n), .int (nI (n / 2)), .int (nI 2), .int (nI sy), .ref rTh, .int (nI ez), .int la, .int ma, .long x, .ref rTe, .int (bz md), .ref rPu, .ref rWh, .ref rGi, .ref rDr, .ref rTr, .ref rKn, .ref rRo, .int (nI rws), .int (nI sz), .ref rTx])), (rTh, .inl (X.1.2.1, 36, .inl (nO th)))]
          refine r_iload_n C dX11_hasTheme_25 2 rfl rfl ?_
          refine r_icmp_ne (tgt := 31) C dX11_hasTheme_26 (by decide) (fun h26 => ?_) (fun h26 => ?_)
          · have h26 : ¬ ((th i) = w) := fun e9 => h26 ((nI_eq (by omega) (by omega)).mpr e9)
            refine r_iinc C dX11_hasTheme_31 3 rfl (v := nI (i + 1)) (nI_add _ _) (by decide) [1, 2, 3, 0] (lv' := [(0, .ref rM), (1, .int (nI ls)), (2, .int (nI w)), (3, .int (nI (i + 1)))]) rfl ?_
            refine r_goto (tgt := 2) C dX11_hasTheme_34 (by decide) ?_
            exact ih2 (i + 1) (by omega) (by omega) (all_S hne (fun q => h26 q.1))
          · have h26 : (th i) = w := (nI_eq (by omega) (by omega)).mp h26
            refine r_iconst C dX11_hasTheme_29 (v := nI 1) (by decide) ?_
            refine r_top (y := bz (∃ d, d < N ∧ th d = w ∧ lfS n sy d = ls)) ((bz_t ⟨i, by omega, h26, h16⟩).symm) ?_
            exact hret _ _ _ () rfl (Or.inr ⟨_, rfl, dX11_hasTheme_30, Or.inr ⟨rfl, bz_01 _⟩⟩)
  exact L2 ((N - 0) + 1) 0 (Nat.lt_succ_self _) (Nat.zero_le _) (fun d q => absurd q (Nat.not_lt_zero d))
theorem fX11_takeOut_27 : Cond.fieldLink RX11 27 (TX11 14).1 (TX11 14).2.1 (TX11 14).2.2.1 ∈ wsX11_takeOut := List.mem_of_getElem? (i := 1) rfl
theorem iX11_takeOut_X11 : ∀ w ∈ wsX110, w ∈ wsX11_takeOut := by decide +kernel
set_option maxHeartbeats 4000000 in
set_option maxRecDepth 100000 in
theorem c_X11_takeOut {g : ww_G} {l : Launch} {rM : Nat} {rTh : Nat} {rTe : Nat} {rPu : Nat} {rWh : Nat} {rGi : Nat} {rDr : Nat} {rTr : Nat} {rKn : Nat} {rRo : Nat} {rTx : Nat} {tn : Nat} {n : Nat} {N : Nat} {sy : Nat} {ez : Nat} {la : Int32} {ma : Int32} {x : Int64} {md : Prop} {rws : Nat} {sz : Nat} {gi : Nat → Option Nat} {ls : Nat} (hn : (n = 4 ∧ N = 16) ∨ (n = 6 ∧ N = 36)) (hsy : sy < 4) (hls : ls < N) : CT g l yX11_takeOut wsX11_takeOut (ww_rm 3) [.ref rM, .int (nI ls)] ([(rM, .inr (12, [.int (nI tn), .int (nI n), .int (nI (n / 2)), .int (nI 2), .int (nI sy), .ref rTh, .int (nI ez), .int la, .int ma, .long x, .ref rTe, .int (bz md), .ref rPu, .ref rWh, .ref rGi, .ref rDr, .ref rTr, .ref rKn, .ref rRo, .int (nI rws), .int (nI sz), .ref rTx])), (rGi, .inl (g.2.1, 36, .inl (eb gi)))]) (S := (Nat → Option Nat)) (fun vv9 u => vv9 = none ∧ ((∀ c, c < N → u c = woF (lfS n sy) ls gi c) ∧ ∀ c, N ≤ c → u c = gi c)) (fun u => [(rM, .inr (12, [.int (nI tn), .int (nI n), .int (nI (n / 2)), .int (nI 2), .int (nI sy), .ref rTh, .int (nI ez), .int la, .int ma, .long x, .ref rTe, .int (bz md), .ref rPu, .ref rWh, .ref rGi, .ref rDr, .ref rTr, .ref rKn, .ref rRo, .int (nI rws), .int (nI sz), .ref rTx])), (rGi, .inl (g.2.1, 36, .inl (eb u)))]) := by
  refine CT.of cX11_takeOut 3 none RX11 (by decide +kernel) rfl rfl (Nat.le_of_ble_eq_true rfl) ?_
  intro X hg hl C hret
  subst hg; subst hl
  show RW X 0 0 0 [(0, .ref rM), (1, .int (nI ls))] [] [(rM, .inr (12, [.int (nI tn), .int (nI n), .int (nI (n / 2)), .int (nI 2), .int (nI sy), .ref rTh, .int (nI ez), .int la, .int ma, .long x, .ref rTe, .int (bz md), .ref rPu, .ref rWh, .ref rGi, .ref rDr, .ref rTr, .ref rKn, .ref rRo, .int (nI rws), .int (nI sz), .ref rTx])), (rGi, .inl (X.1.2.1, 36, .inl (eb gi)))]
  refine r_iconst C dX11_takeOut_0 (v := nI 0) (by decide) ?_
  refine r_istore_n C dX11_takeOut_1 rfl (by decide) [1, 2, 0] (lv' := [(0, .ref rM), (1, .int (nI ls)), (2, .int (nI 0))]) rfl ?_
  have L2 : ∀ (d2 : Nat) (i : Nat) (g1 : Nat → Option Nat), (N - i) < d2 → (i ≤ N) → ((∀ c, c < i → g1 c = woF (lfS n sy) ls gi c) ∧ ∀ c, i ≤ c → g1 c = gi c) → RW X 0 0 2 [(0, .ref rM), (1, .int (nI ls)), (2, .int (nI i))] [] [(rM, .inr (12, [.int (nI tn), .int (nI n), .int (nI (n / 2)), .int (nI 2), .int (nI sy), .ref rTh, .int (nI ez), .int la, .int ma, .long x, .ref rTe, .int (bz md), .ref rPu, .ref rWh, .ref rGi, .ref rDr, .ref rTr, .ref rKn, .ref rRo, .int (nI rws), .int (nI sz), .ref rTx])), (rGi, .inl (X.1.2.1, 36, .inl (eb g1)))] := by
    intro d2
    induction d2 with
    | zero => intro i g1 hd2; exact absurd hd2 (Nat.not_lt_zero _)
    | succ d2 ih2 =>
      intro i g1 hd2 hi hg1
      refine r_iload_n C dX11_takeOut_2 2 rfl rfl ?_
      refine r_aload_n C dX11_takeOut_3 0 rfl rfl ?_
      refine r_callV0 (n := 0) (ws' := fun (u : Unit) => [(rM, .inr (12, [.int (nI tn), .int (nI n), .int (nI (n / 2)), .int (nI 2), .int (nI sy), .ref rTh, .int (nI ez), .int la, .int ma, .long x, .ref rTe, .int (bz md), .ref rPu, .ref rWh, .ref rGi, .ref rDr, .ref rTr, .ref rKn, .ref rRo, .int (nI rws), .int (nI sz), .ref rTx])), (rGi, .inl (X.1.2.1, 36, .inl (eb g1)))]) C dX11_takeOut_4 (c_X11_cells (g := X.1) (l := X.2.2.1) (rM := rM) (rTh := rTh) (rTe := rTe) (rPu := rPu) (rWh := rWh) (rGi := rGi) (rDr := rDr) (rTr := rTr) (rKn := rKn) (rRo := rRo) (rTx := rTx) (tn := tn) (n := n) (N := N) (sy := sy) (ez := ez) (la := la) (ma := ma) (x := x) (md := md) (rws := rws) (sz := sz) (hn := (by first | assumption | omega))) gX11_takeOut_X11_cells rfl (by decide +kernel) rfl ⟨Nat.le_of_ble_eq_true rfl, Nat.le_of_ble_eq_true rfl⟩ ⟨rfl, rfl⟩ ⟨Nat.zero_le _, Nat.zero_le _⟩ (rest := [.int (nI i)]) rfl (Nat.le_of_ble_eq_true rfl) 0 rfl rfl [0] (by decide) rfl (fun u => Eq.trans (b := [rM]) rfl rfl) (fun u => rfl) (fun v u hp => ?_)
      obtain rfl := hp
      show RW X 0 0 7 [(0, .ref rM), (1, .int (nI ls)), (2, .int (nI i))] [.int (nI N), .int (nI i)] [(rM, .inr (12, [.int (nI tn), .int (nI n), .int (nI (n / 2)), .int (nI 2), .int (nI sy), .ref rTh, .int (nI ez), .int la, .int ma, .long x, .ref rTe, .int (bz md), .ref rPu, .ref rWh, .ref rGi, .ref rDr, .ref rTr, .ref rKn, .ref rRo, .int (nI rws), .int (nI sz), .ref rTx])), (rGi, .inl (X.1.2.1, 36, .inl (eb g1)))]
      refine r_icmp_ge (tgt := 32) C dX11_takeOut_7 (by decide) (fun h7 => ?_) (fun h7 => ?_)
      · have h7 : N ≤ i := (nI_leI (by omega) (by omega)).mp h7
        exact hret _ _ _ (g1) ⟨rfl, ⟨fun c q => hg1.1 c (by omega), fun c q => hg1.2 c (by omega)⟩⟩ (Or.inl ⟨rfl, rfl, dX11_takeOut_32⟩)
      · have h7 : ¬ (N ≤ i) := fun e9 => h7 ((nI_leI (by omega) (by omega)).mpr e9)
        refine r_aload_n C dX11_takeOut_10 0 rfl rfl ?_
        refine r_iload_n C dX11_takeOut_11 2 rfl rfl ?_
        refine r_callV0 (n := 1) (ws' := fun (u : Unit) => [(rM, .inr (12, [.int (nI tn), .int (nI n), .int (nI (n / 2)), .int (nI 2), .int (nI sy), .ref rTh, .int (nI ez), .int la, .int ma, .long x, .ref rTe, .int (bz md), .ref rPu, .ref rWh, .ref rGi, .ref rDr, .ref rTr, .ref rKn, .ref rRo, .int (nI rws), .int (nI sz), .ref rTx])), (rGi, .inl (X.1.2.1, 36, .inl (eb g1)))]) C dX11_takeOut_12 (c_X11_leastOf (g := X.1) (l := X.2.2.1) (rM := rM) (rTh := rTh) (rTe := rTe) (rPu := rPu) (rWh := rWh) (rGi := rGi) (rDr := rDr) (rTr := rTr) (rKn := rKn) (rRo := rRo) (rTx := rTx) (tn := tn) (n := n) (N := N) (sy := sy) (ez := ez) (la := la) (ma := ma) (x := x) (md := md) (rws := rws) (sz := sz) (c := i) (hn := (by first | assumption | omega)) (hsy := (by first | assumption | omega)) (hc := (by omega))) gX11_takeOut_X11_leastOf rfl (by decide +kernel) rfl ⟨Nat.le_of_ble_eq_true rfl, Nat.le_of_ble_eq_true rfl⟩ ⟨rfl, rfl⟩ ⟨Nat.zero_le _, Nat.zero_le _⟩ (rest := []) rfl (Nat.le_of_ble_eq_true rfl) 0 rfl rfl [0] (by decide) rfl (fun u => Eq.trans (b := [rM]) rfl rfl) (fun u => rfl) (fun v u hp => ?_)
        obtain rfl := hp
        show RW X 0 0 15 [(0, .ref rM), (1, .int (nI ls)), (2, .int (nI i))] [.int (nI (lfS n sy i))] [(rM, .inr (12, [.int (nI tn), .int (nI n), .int (nI (n / 2)), .int (nI 2), .int (nI sy), .ref rTh, .int (nI ez), .int la, .int ma, .long x, .ref rTe, .int (bz md), .ref rPu, .ref rWh, .ref rGi, .ref rDr, .ref rTr, .ref rKn, .ref rRo, .int (nI rws), .int (nI sz), .ref rTx])), (rGi, .inl (X.1.2.1, 36, .inl (eb g1)))]
        have hll := lfS_lt (k := sy) hn (show i < N by omega)
        refine r_iload_n C dX11_takeOut_15 1 rfl rfl ?_
        refine r_icmp_ne (tgt := 26) C dX11_takeOut_16 (by decide) (fun h16 => ?_) (fun h16 => ?_)
        · have h16 : ¬ ((lfS n sy i) = ls) := fun e9 => h16 ((nI_eq (by omega) (by omega)).mpr e9)
          refine r_iinc C dX11_takeOut_26 2 rfl (v := nI (i + 1)) (nI_add _ _) (by decide) [1, 2, 0] (lv' := [(0, .ref rM), (1, .int (nI ls)), (2, .int (nI (i + 1)))]) rfl ?_
          refine r_goto (tgt := 2) C dX11_takeOut_29 (by decide) ?_
          exact ih2 (i + 1) g1 (by omega) (by omega) (seq_skip hg1 (by unfold woF; rw [if_neg h16]))
        · have h16 : (lfS n sy i) = ls := (nI_eq (by omega) (by omega)).mp h16
          refine r_aload_n C dX11_takeOut_19 0 rfl rfl ?_
          refine r_get C dX11_takeOut_20 iX11_takeOut_X11 14 fX11_takeOut_27 0 rfl rfl (by decide) rfl ?_
          refine r_iload_n C dX11_takeOut_23 2 rfl rfl ?_
          refine r_iconst C dX11_takeOut_24 (v := (-1)) (by decide) ?_
          refine r_iast C dX11_takeOut_25 1 rfl (by omega) (by omega) (ws' := [(rM, .inr (12, [.int (nI tn), .int (nI n), .int (nI (n / 2)), .int (nI 2), .int (nI sy), .ref rTh, .int (nI ez), .int la, .int ma, .long x, .ref rTe, .int (bz md), .ref rPu, .ref rWh, .ref rGi, .ref rDr, .ref rTr, .ref rKn, .ref rRo, .int (nI rws), .int (nI sz), .ref rTx])), (rGi, .inl (X.1.2.1, 36, .inl (upd (eb g1) i (-1))))]) rfl ?_
          rw [eb_0]
          show RW X 0 0 26 [(0, .ref rM), (1, .int (nI ls)), (2, .int (nI i))] [] [(rM, .inr (12, [.int (nI tn), .int (nI n), .int (nI (n / 2)), .int (nI 2), .int (nI sy), .ref rTh, .int (nI ez), .int la, .int ma, .long x, .ref rTe, .int (bz md), .ref rPu, .ref rWh, .ref rGi, .ref rDr, .ref rTr, .ref rKn, .ref rRo, .int (nI rws), .int (nI sz), .ref rTx])), (rGi, .inl (X.1.2.1, 36, .inl (eb (ub g1 i none))))]
          refine r_iinc C dX11_takeOut_26 2 rfl (v := nI (i + 1)) (nI_add _ _) (by decide) [1, 2, 0] (lv' := [(0, .ref rM), (1, .int (nI ls)), (2, .int (nI (i + 1)))]) rfl ?_
          refine r_goto (tgt := 2) C dX11_takeOut_29 (by decide) ?_
          exact ih2 (i + 1) (ub g1 i none) (by omega) (by omega) (seq_put hg1 (by unfold woF; rw [if_pos h16]))
  exact L2 ((N - 0) + 1) 0 gi (Nat.lt_succ_self _) (Nat.zero_le _) (⟨fun c q => absurd q (Nat.not_lt_zero c), fun _ _ => rfl⟩)
theorem fX11_putBack_27 : Cond.fieldLink RX11 27 (TX11 14).1 (TX11 14).2.1 (TX11 14).2.2.1 ∈ wsX11_putBack := List.mem_of_getElem? (i := 1) rfl
theorem iX11_putBack_X11 : ∀ w ∈ wsX110, w ∈ wsX11_putBack := by decide +kernel
theorem fX11_putBack_30 : Cond.fieldLink RX11 30 (TX11 15).1 (TX11 15).2.1 (TX11 15).2.2.1 ∈ wsX11_putBack := List.mem_of_getElem? (i := 2) rfl
set_option maxHeartbeats 4000000 in
set_option maxRecDepth 100000 in
theorem c_X11_putBack {g : ww_G} {l : Launch} {rM : Nat} {rTh : Nat} {rTe : Nat} {rPu : Nat} {rWh : Nat} {rGi : Nat} {rDr : Nat} {rTr : Nat} {rKn : Nat} {rRo : Nat} {rTx : Nat} {tn : Nat} {n : Nat} {N : Nat} {sy : Nat} {ez : Nat} {la : Int32} {ma : Int32} {x : Int64} {md : Prop} {rws : Nat} {sz : Nat} {gi : Nat → Option Nat} {dr : Nat → Option Nat} {ls : Nat} (hn : (n = 4 ∧ N = 16) ∨ (n = 6 ∧ N = 36)) (hsy : sy < 4) (hls : ls < N) : CT g l yX11_putBack wsX11_putBack (ww_rm 3) [.ref rM, .int (nI ls)] ([(rM, .inr (12, [.int (nI tn), .int (nI n), .int (nI (n / 2)), .int (nI 2), .int (nI sy), .ref rTh, .int (nI ez), .int la, .int ma, .long x, .ref rTe, .int (bz md), .ref rPu, .ref rWh, .ref rGi, .ref rDr, .ref rTr, .ref rKn, .ref rRo, .int (nI rws), .int (nI sz), .ref rTx])), (rGi, .inl (g.2.1, 36, .inl (eb gi))), (rDr, .inl (g.2.1, 36, .inl (eb dr)))]) (S := (Nat → Option Nat)) (fun vv9 u => vv9 = none ∧ ((∀ c, c < N → u c = pbF (lfS n sy) ls dr gi c) ∧ ∀ c, N ≤ c → u c = gi c)) (fun u => [(rM, .inr (12, [.int (nI tn), .int (nI n), .int (nI (n / 2)), .int (nI 2), .int (nI sy), .ref rTh, .int (nI ez), .int la, .int ma, .long x, .ref rTe, .int (bz md), .ref rPu, .ref rWh, .ref rGi, .ref rDr, .ref rTr, .ref rKn, .ref rRo, .int (nI rws), .int (nI sz), .ref rTx])), (rGi, .inl (g.2.1, 36, .inl (eb u))), (rDr, .inl (g.2.1, 36, .inl (eb dr)))]) := by
  refine CT.of cX11_putBack 3 none RX11 (by decide +kernel) rfl rfl (Nat.le_of_ble_eq_true rfl) ?_
  intro X hg hl C hret
  subst hg; subst hl
  show RW X 0 0 0 [(0, .ref rM), (1, .int (nI ls))] [] [(rM, .inr (12, [.int (nI tn), .int (nI n), .int (nI (n / 2)), .int (nI 2), .int (nI sy), .ref rTh, .int (nI ez), .int la, .int ma, .long x, .ref rTe, .int (bz md), .ref rPu, .ref rWh, .ref rGi, .ref rDr, .ref rTr, .ref rKn, .ref rRo, .int (nI rws), .int (nI sz), .ref rTx])), (rGi, .inl (X.1.2.1, 36, .inl (eb gi))), (rDr, .inl (X.1.2.1, 36, .inl (eb dr)))]
  refine r_iconst C dX11_putBack_0 (v := nI 0) (by decide) ?_
  refine r_istore_n C dX11_putBack_1 rfl (by decide) [1, 2, 0] (lv' := [(0, .ref rM), (1, .int (nI ls)), (2, .int (nI 0))]) rfl ?_
  have L2 : ∀ (d2 : Nat) (i : Nat) (g1 : Nat → Option Nat), (N - i) < d2 → (i ≤ N) → ((∀ c, c < i → g1 c = pbF (lfS n sy) ls dr gi c) ∧ ∀ c, i ≤ c → g1 c = gi c) → RW X 0 0 2 [(0, .ref rM), (1, .int (nI ls)), (2, .int (nI i))] [] [(rM, .inr (12, [.int (nI tn), .int (nI n), .int (nI (n / 2)), .int (nI 2), .int (nI sy), .ref rTh, .int (nI ez), .int la, .int ma, .long x, .ref rTe, .int (bz md), .ref rPu, .ref rWh, .ref rGi, .ref rDr, .ref rTr, .ref rKn, .ref rRo, .int (nI rws), .int (nI sz), .ref rTx])), (rGi, .inl (X.1.2.1, 36, .inl (eb g1))), (rDr, .inl (X.1.2.1, 36, .inl (eb dr)))] := by
    intro d2
    induction d2 with
    | zero => intro i g1 hd2; exact absurd hd2 (Nat.not_lt_zero _)
    | succ d2 ih2 =>
      intro i g1 hd2 hi hg1
      refine r_iload_n C dX11_putBack_2 2 rfl rfl ?_
      refine r_aload_n C dX11_putBack_3 0 rfl rfl ?_
      refine r_callV0 (n := 0) (ws' := fun (u : Unit) => [(rM, .inr (12, [.int (nI tn), .int (nI n), .int (nI (n / 2)), .int (nI 2), .int (nI sy), .ref rTh, .int (nI ez), .int la, .int ma, .long x, .ref rTe, .int (bz md), .ref rPu, .ref rWh, .ref rGi, .ref rDr, .ref rTr, .ref rKn, .ref rRo, .int (nI rws), .int (nI sz), .ref rTx])), (rGi, .inl (X.1.2.1, 36, .inl (eb g1))), (rDr, .inl (X.1.2.1, 36, .inl (eb dr)))]) C dX11_putBack_4 (c_X11_cells (g := X.1) (l := X.2.2.1) (rM := rM) (rTh := rTh) (rTe := rTe) (rPu := rPu) (rWh := rWh) (rGi := rGi) (rDr := rDr) (rTr := rTr) (rKn := rKn) (rRo := rRo) (rTx := rTx) (tn := tn) (n := n) (N := N) (sy := sy) (ez := ez) (la := la) (ma := ma) (x := x) (md := md) (rws := rws) (sz := sz) (hn := (by first | assumption | omega))) gX11_putBack_X11_cells rfl (by decide +kernel) rfl ⟨Nat.le_of_ble_eq_true rfl, Nat.le_of_ble_eq_true rfl⟩ ⟨rfl, rfl⟩ ⟨Nat.zero_le _, Nat.zero_le _⟩ (rest := [.int (nI i)]) rfl (Nat.le_of_ble_eq_true rfl) 0 rfl rfl [0] (by decide) rfl (fun u => Eq.trans (b := [rM]) rfl rfl) (fun u => rfl) (fun v u hp => ?_)
      obtain rfl := hp
      show RW X 0 0 7 [(0, .ref rM), (1, .int (nI ls)), (2, .int (nI i))] [.int (nI N), .int (nI i)] [(rM, .inr (12, [.int (nI tn), .int (nI n), .int (nI (n / 2)), .int (nI 2), .int (nI sy), .ref rTh, .int (nI ez), .int la, .int ma, .long x, .ref rTe, .int (bz md), .ref rPu, .ref rWh, .ref rGi, .ref rDr, .ref rTr, .ref rKn, .ref rRo, .int (nI rws), .int (nI sz), .ref rTx])), (rGi, .inl (X.1.2.1, 36, .inl (eb g1))), (rDr, .inl (X.1.2.1, 36, .inl (eb dr)))]
      refine r_icmp_ge (tgt := 37) C dX11_putBack_7 (by decide) (fun h7 => ?_) (fun h7 => ?_)
      · have h7 : N ≤ i := (nI_leI (by omega) (by omega)).mp h7
        exact hret _ _ _ (g1) ⟨rfl, ⟨fun c q => hg1.1 c (by omega), fun c q => hg1.2 c (by omega)⟩⟩ (Or.inl ⟨rfl, rfl, dX11_putBack_37⟩)
      · have h7 : ¬ (N ≤ i) := fun e9 => h7 ((nI_leI (by omega) (by omega)).mpr e9)
        refine r_aload_n C dX11_putBack_10 0 rfl rfl ?_
        refine r_iload_n C dX11_putBack_11 2 rfl rfl ?_
        refine r_callV0 (n := 1) (ws' := fun (u : Unit) => [(rM, .inr (12, [.int (nI tn), .int (nI n), .int (nI (n / 2)), .int (nI 2), .int (nI sy), .ref rTh, .int (nI ez), .int la, .int ma, .long x, .ref rTe, .int (bz md), .ref rPu, .ref rWh, .ref rGi, .ref rDr, .ref rTr, .ref rKn, .ref rRo, .int (nI rws), .int (nI sz), .ref rTx])), (rGi, .inl (X.1.2.1, 36, .inl (eb g1))), (rDr, .inl (X.1.2.1, 36, .inl (eb dr)))]) C dX11_putBack_12 (c_X11_leastOf (g := X.1) (l := X.2.2.1) (rM := rM) (rTh := rTh) (rTe := rTe) (rPu := rPu) (rWh := rWh) (rGi := rGi) (rDr := rDr) (rTr := rTr) (rKn := rKn) (rRo := rRo) (rTx := rTx) (tn := tn) (n := n) (N := N) (sy := sy) (ez := ez) (la := la) (ma := ma) (x := x) (md := md) (rws := rws) (sz := sz) (c := i) (hn := (by first | assumption | omega)) (hsy := (by first | assumption | omega)) (hc := (by omega))) gX11_putBack_X11_leastOf rfl (by decide +kernel) rfl ⟨Nat.le_of_ble_eq_true rfl, Nat.le_of_ble_eq_true rfl⟩ ⟨rfl, rfl⟩ ⟨Nat.zero_le _, Nat.zero_le _⟩ (rest := []) rfl (Nat.le_of_ble_eq_true rfl) 0 rfl rfl [0] (by decide) rfl (fun u => Eq.trans (b := [rM]) rfl rfl) (fun u => rfl) (fun v u hp => ?_)
        obtain rfl := hp
        show RW X 0 0 15 [(0, .ref rM), (1, .int (nI ls)), (2, .int (nI i))] [.int (nI (lfS n sy i))] [(rM, .inr (12, [.int (nI tn), .int (nI n), .int (nI (n / 2)), .int (nI 2), .int (nI sy), .ref rTh, .int (nI ez), .int la, .int ma, .long x, .ref rTe, .int (bz md), .ref rPu, .ref rWh, .ref rGi, .ref rDr, .ref rTr, .ref rKn, .ref rRo, .int (nI rws), .int (nI sz), .ref rTx])), (rGi, .inl (X.1.2.1, 36, .inl (eb g1))), (rDr, .inl (X.1.2.1, 36, .inl (eb dr)))]
        have hll := lfS_lt (k := sy) hn (show i < N by omega)
        refine r_iload_n C dX11_putBack_15 1 rfl rfl ?_
        refine r_icmp_ne (tgt := 31) C dX11_putBack_16 (by decide) (fun h16 => ?_) (fun h16 => ?_)
        · have h16 : ¬ ((lfS n sy i) = ls) := fun e9 => h16 ((nI_eq (by omega) (by omega)).mpr e9)
          refine r_iinc C dX11_putBack_31 2 rfl (v := nI (i + 1)) (nI_add _ _) (by decide) [1, 2, 0] (lv' := [(0, .ref rM), (1, .int (nI ls)), (2, .int (nI (i + 1)))]) rfl ?_
          refine r_goto (tgt := 2) C dX11_putBack_34 (by decide) ?_
          exact ih2 (i + 1) g1 (by omega) (by omega) (seq_skip hg1 (by unfold pbF; rw [if_neg h16]))
        · have h16 : (lfS n sy i) = ls := (nI_eq (by omega) (by omega)).mp h16
          refine r_aload_n C dX11_putBack_19 0 rfl rfl ?_
          refine r_get C dX11_putBack_20 iX11_putBack_X11 14 fX11_putBack_27 0 rfl rfl (by decide) rfl ?_
          refine r_iload_n C dX11_putBack_23 2 rfl rfl ?_
          refine r_aload_n C dX11_putBack_24 0 rfl rfl ?_
          refine r_get C dX11_putBack_25 iX11_putBack_X11 15 fX11_putBack_30 0 rfl rfl (by decide) rfl ?_
          refine r_iload_n C dX11_putBack_28 2 rfl rfl ?_
          refine r_iald C dX11_putBack_29 2 rfl (by omega) (by omega) ?_
          refine r_iast C dX11_putBack_30 1 rfl (by omega) (by omega) (ws' := [(rM, .inr (12, [.int (nI tn), .int (nI n), .int (nI (n / 2)), .int (nI 2), .int (nI sy), .ref rTh, .int (nI ez), .int la, .int ma, .long x, .ref rTe, .int (bz md), .ref rPu, .ref rWh, .ref rGi, .ref rDr, .ref rTr, .ref rKn, .ref rRo, .int (nI rws), .int (nI sz), .ref rTx])), (rGi, .inl (X.1.2.1, 36, .inl (upd (eb g1) i ((eb dr) i)))), (rDr, .inl (X.1.2.1, 36, .inl (eb dr)))]) rfl ?_
          rw [eb_u]
          show RW X 0 0 31 [(0, .ref rM), (1, .int (nI ls)), (2, .int (nI i))] [] [(rM, .inr (12, [.int (nI tn), .int (nI n), .int (nI (n / 2)), .int (nI 2), .int (nI sy), .ref rTh, .int (nI ez), .int la, .int ma, .long x, .ref rTe, .int (bz md), .ref rPu, .ref rWh, .ref rGi, .ref rDr, .ref rTr, .ref rKn, .ref rRo, .int (nI rws), .int (nI sz), .ref rTx])), (rGi, .inl (X.1.2.1, 36, .inl (eb (ub g1 i (dr i))))), (rDr, .inl (X.1.2.1, 36, .inl (eb dr)))]
          refine r_iinc C dX11_putBack_31 2 rfl (v := nI (i + 1)) (nI_add _ _) (by decide) [1, 2, 0] (lv' := [(0, .ref rM), (1, .int (nI ls)), (2, .int (nI (i + 1)))]) rfl ?_
          refine r_goto (tgt := 2) C dX11_putBack_34 (by decide) ?_
          exact ih2 (i + 1) (ub g1 i (dr i)) (by omega) (by omega) (seq_put hg1 (by unfold pbF; rw [if_pos h16]))
  exact L2 ((N - 0) + 1) 0 gi (Nat.lt_succ_self _) (Nat.zero_le _) (⟨fun c q => absurd q (Nat.not_lt_zero c), fun _ _ => rfl⟩)
theorem fX11_fits_27 : Cond.fieldLink RX11 27 (TX11 14).1 (TX11 14).2.1 (TX11 14).2.2.1 ∈ wsX11_fits := List.mem_of_getElem? (i := 2) rfl
theorem iX11_fits_X11 : ∀ w ∈ wsX110, w ∈ wsX11_fits := by decide +kernel
theorem fX11_fits_33 : Cond.fieldLink RX11 33 (TX11 16).1 (TX11 16).2.1 (TX11 16).2.2.1 ∈ wsX11_fits := List.mem_of_getElem? (i := 1) rfl
set_option maxHeartbeats 4000000 in
set_option maxRecDepth 100000 in
theorem c_X11_fits {g : ww_G} {l : Launch} {rM : Nat} {rTh : Nat} {rTe : Nat} {rPu : Nat} {rWh : Nat} {rGi : Nat} {rDr : Nat} {rTr : Nat} {rKn : Nat} {rRo : Nat} {rTx : Nat} {tn : Nat} {n : Nat} {N : Nat} {sy : Nat} {ez : Nat} {la : Int32} {ma : Int32} {x : Int64} {md : Prop} {rws : Nat} {sz : Nat} {tr : Nat → Option Nat} {gi : Nat → Option Nat} {c : Nat} {v : Nat} (hn : (n = 4 ∧ N = 16) ∨ (n = 6 ∧ N = 36)) (hc : c < N) (hv : v < 2147483648) (hvt : ∀ c v, tr c = some v → v < n) (hvg : ∀ c v, gi c = some v → v < n) : CT g l yX11_fits wsX11_fits (ww_rm 2) [.ref rM, .int (nI c), .int (nI v)] ([(rM, .inr (12, [.int (nI tn), .int (nI n), .int (nI (n / 2)), .int (nI 2), .int (nI sy), .ref rTh, .int (nI ez), .int la, .int ma, .long x, .ref rTe, .int (bz md), .ref rPu, .ref rWh, .ref rGi, .ref rDr, .ref rTr, .ref rKn, .ref rRo, .int (nI rws), .int (nI sz), .ref rTx])), (rTr, .inl (g.2.1, 36, .inl (eb tr))), (rGi, .inl (g.2.1, 36, .inl (eb gi)))]) (S := Unit) (fun vv9 u => vv9 = some (.int (bz (∀ d, d < N → (if d < c then tr d else gi d) = some v → ¬ (d ≠ c ∧ tog n d c))))) (fun u => [(rM, .inr (12, [.int (nI tn), .int (nI n), .int (nI (n / 2)), .int (nI 2), .int (nI sy), .ref rTh, .int (nI ez), .int la, .int ma, .long x, .ref rTe, .int (bz md), .ref rPu, .ref rWh, .ref rGi, .ref rDr, .ref rTr, .ref rKn, .ref rRo, .int (nI rws), .int (nI sz), .ref rTx])), (rTr, .inl (g.2.1, 36, .inl (eb tr))), (rGi, .inl (g.2.1, 36, .inl (eb gi)))]) := by
  refine CT.of cX11_fits 4 (some .boolean) RX11 (by decide +kernel) rfl rfl (Nat.le_of_ble_eq_true rfl) ?_
  intro X hg hl C hret
  subst hg; subst hl
  show RW X 0 0 0 [(0, .ref rM), (1, .int (nI c)), (2, .int (nI v))] [] [(rM, .inr (12, [.int (nI tn), .int (nI n), .int (nI (n / 2)), .int (nI 2), .int (nI sy), .ref rTh, .int (nI ez), .int la, .int ma, .long x, .ref rTe, .int (bz md), .ref rPu, .ref rWh, .ref rGi, .ref rDr, .ref rTr, .ref rKn, .ref rRo, .int (nI rws), .int (nI sz), .ref rTx])), (rTr, .inl (X.1.2.1, 36, .inl (eb tr))), (rGi, .inl (X.1.2.1, 36, .inl (eb gi)))]
  refine r_iconst C dX11_fits_0 (v := nI 0) (by decide) ?_
  refine r_istore_n C dX11_fits_1 rfl (by decide) [1, 2, 3, 0] (lv' := [(0, .ref rM), (1, .int (nI c)), (2, .int (nI v)), (3, .int (nI 0))]) rfl ?_
  have L2 : ∀ (d2 : Nat) (i : Nat), (N - i) < d2 → (i ≤ N) → (∀ d, d < i → (if d < c then tr d else gi d) = some v → ¬ (d ≠ c ∧ tog n d c)) → RW X 0 0 2 [(0, .ref rM), (1, .int (nI c)), (2, .int (nI v)), (3, .int (nI i))] [] [(rM, .inr (12, [.int (nI tn), .int (nI n), .int (nI (n / 2)), .int (nI 2), .int (nI sy), .ref rTh, .int (nI ez), .int la, .int ma, .long x, .ref rTe, .int (bz md), .ref rPu, .ref rWh, .ref rGi, .ref rDr, .ref rTr, .ref rKn, .ref rRo, .int (nI rws), .int (nI sz), .ref rTx])), (rTr, .inl (X.1.2.1, 36, .inl (eb tr))), (rGi, .inl (X.1.2.1, 36, .inl (eb gi)))] := by
    intro d2
    induction d2 with
    | zero => intro i hd2; exact absurd hd2 (Nat.not_lt_zero _)
    | succ d2 ih2 =>
      intro i hd2 hi hne
      refine r_iload_n C dX11_fits_2 3 rfl rfl ?_
      refine r_aload_n C dX11_fits_3 0 rfl rfl ?_
      refine r_callV0 (n := 0) (ws' := fun (u : Unit) => [(rM, .inr (12, [.int (nI tn), .int (nI n), .int (nI (n / 2)), .int (nI 2), .int (nI sy), .ref rTh, .int (nI ez), .int la, .int ma, .long x, .ref rTe, .int (bz md), .ref rPu, .ref rWh, .ref rGi, .ref rDr, .ref rTr, .ref rKn, .ref rRo, .int (nI rws), .int (nI sz), .ref rTx])), (rTr, .inl (X.1.2.1, 36, .inl (eb tr))), (rGi, .inl (X.1.2.1, 36, .inl (eb gi)))]) C dX11_fits_4 (c_X11_cells (g := X.1) (l := X.2.2.1) (rM := rM) (rTh := rTh) (rTe := rTe) (rPu := rPu) (rWh := rWh) (rGi := rGi) (rDr := rDr) (rTr := rTr) (rKn := rKn) (rRo := rRo) (rTx := rTx) (tn := tn) (n := n) (N := N) (sy := sy) (ez := ez) (la := la) (ma := ma) (x := x) (md := md) (rws := rws) (sz := sz) (hn := (by first | assumption | omega))) gX11_fits_X11_cells rfl (by decide +kernel) rfl ⟨Nat.le_of_ble_eq_true rfl, Nat.le_of_ble_eq_true rfl⟩ ⟨rfl, rfl⟩ ⟨Nat.zero_le _, Nat.zero_le _⟩ (rest := [.int (nI i)]) rfl (Nat.le_of_ble_eq_true rfl) 0 rfl rfl [0] (by decide) rfl (fun u => Eq.trans (b := [rM]) rfl rfl) (fun u => rfl) (fun v u hp => ?_)
      obtain rfl := hp
      show RW X 0 0 7 [(0, .ref rM), (1, .int (nI c)), (2, .int (nI v)), (3, .int (nI i))] [.int (nI N), .int (nI i)] [(rM, .inr (12, [.int (nI tn), .int (nI n), .int (nI (n / 2)), .int (nI 2), .int (nI sy), .ref rTh, .int (nI ez), .int la, .int ma, .long x, .ref rTe, .int (bz md), .ref rPu, .ref rWh, .ref rGi, .ref rDr, .ref rTr, .ref rKn, .ref rRo, .int (nI rws), .int (nI sz), .ref rTx])), (rTr, .inl (X.1.2.1, 36, .inl (eb tr))), (rGi, .inl (X.1.2.1, 36, .inl (eb gi)))]
      refine r_icmp_ge (tgt := 51) C dX11_fits_7 (by decide) (fun h7 => ?_) (fun h7 => ?_)
      · have h7 : N ≤ i := (nI_leI (by omega) (by omega)).mp h7
        refine r_iconst C dX11_fits_51 (v := nI 1) (by decide) ?_
        refine r_top (y := bz (∀ d, d < N → (if d < c then tr d else gi d) = some v → ¬ (d ≠ c ∧ tog n d c))) ((bz_t (fun d q => hne d (by omega))).symm) ?_
        exact hret _ _ _ () rfl (Or.inr ⟨_, rfl, dX11_fits_52, Or.inr ⟨rfl, bz_01 _⟩⟩)
      · have h7 : ¬ (N ≤ i) := fun e9 => h7 ((nI_leI (by omega) (by omega)).mpr e9)
        refine r_iload_n C dX11_fits_10 3 rfl rfl ?_
        refine r_iload_n C dX11_fits_11 1 rfl rfl ?_
        refine r_icmp_ge (tgt := 24) C dX11_fits_12 (by decide) (fun h12 => ?_) (fun h12 => ?_)
        · have h12 : c ≤ i := (nI_leI (by omega) (by omega)).mp h12
          refine r_aload_n C dX11_fits_24 0 rfl rfl ?_
          refine r_get C dX11_fits_25 iX11_fits_X11 14 fX11_fits_27 0 rfl rfl (by decide) rfl ?_
          refine r_iload_n C dX11_fits_28 3 rfl rfl ?_
          refine r_iald C dX11_fits_29 2 rfl (by omega) (by omega) ?_
          refine r_iload_n C dX11_fits_30 2 rfl rfl ?_
          refine r_icmp_ne (tgt := 45) C dX11_fits_31 (by decide) (fun h31 => ?_) (fun h31 => ?_)
          · refine r_iinc C dX11_fits_45 3 rfl (v := nI (i + 1)) (nI_add _ _) (by decide) [1, 2, 3, 0] (lv' := [(0, .ref rM), (1, .int (nI c)), (2, .int (nI v)), (3, .int (nI (i + 1)))]) rfl ?_
            refine r_goto (tgt := 2) C dX11_fits_48 (by decide) ?_
            exact ih2 (i + 1) (by omega) (by omega) (all_S hne (fun w => absurd (show eo (gi i) = nI v by rw [if_neg (by omega)] at w; rw [w]; rfl) h31))
          · refine r_aload_n C dX11_fits_34 0 rfl rfl ?_
            refine r_iload_n C dX11_fits_35 3 rfl rfl ?_
            refine r_iload_n C dX11_fits_36 1 rfl rfl ?_
            refine r_callV0 (n := 2) (ws' := fun (u : Unit) => [(rM, .inr (12, [.int (nI tn), .int (nI n), .int (nI (n / 2)), .int (nI 2), .int (nI sy), .ref rTh, .int (nI ez), .int la, .int ma, .long x, .ref rTe, .int (bz md), .ref rPu, .ref rWh, .ref rGi, .ref rDr, .ref rTr, .ref rKn, .ref rRo, .int (nI rws), .int (nI sz), .ref rTx])), (rTr, .inl (X.1.2.1, 36, .inl (eb tr))), (rGi, .inl (X.1.2.1, 36, .inl (eb gi)))]) C dX11_fits_37 (c_X11_sees (g := X.1) (l := X.2.2.1) (rM := rM) (rTh := rTh) (rTe := rTe) (rPu := rPu) (rWh := rWh) (rGi := rGi) (rDr := rDr) (rTr := rTr) (rKn := rKn) (rRo := rRo) (rTx := rTx) (tn := tn) (n := n) (N := N) (sy := sy) (ez := ez) (la := la) (ma := ma) (x := x) (md := md) (rws := rws) (sz := sz) (a := i) (b := c) (hn := (by first | assumption | omega)) (ha := (by omega)) (hb := hc)) gX11_fits_X11_sees rfl (by decide +kernel) rfl ⟨Nat.le_of_ble_eq_true rfl, Nat.le_of_ble_eq_true rfl⟩ ⟨rfl, rfl⟩ ⟨Nat.zero_le _, Nat.zero_le _⟩ (rest := []) rfl (Nat.le_of_ble_eq_true rfl) 0 rfl rfl [0] (by decide) rfl (fun u => Eq.trans (b := [rM]) rfl rfl) (fun u => rfl) (fun v u hp => ?_)
            obtain rfl := hp
            show RW X 0 0 40 [(0, .ref rM), (1, .int (nI c)), (2, .int (nI v)), (3, .int (nI i))] [.int (bz (i ≠ c ∧ tog n i c))] [(rM, .inr (12, [.int (nI tn), .int (nI n), .int (nI (n / 2)), .int (nI 2), .int (nI sy), .ref rTh, .int (nI ez), .int la, .int ma, .long x, .ref rTe, .int (bz md), .ref rPu, .ref rWh, .ref rGi, .ref rDr, .ref rTr, .ref rKn, .ref rRo, .int (nI rws), .int (nI sz), .ref rTx])), (rTr, .inl (X.1.2.1, 36, .inl (eb tr))), (rGi, .inl (X.1.2.1, 36, .inl (eb gi)))]
            refine r_if_eq (tgt := 45) C dX11_fits_40 (by decide) (fun h40 => ?_) (fun h40 => ?_)
            · have h40 : ¬ (i ≠ c ∧ tog n i c) := bz_0.mp h40
              refine r_iinc C dX11_fits_45 3 rfl (v := nI (i + 1)) (nI_add _ _) (by decide) [1, 2, 3, 0] (lv' := [(0, .ref rM), (1, .int (nI c)), (2, .int (nI v)), (3, .int (nI (i + 1)))]) rfl ?_
              refine r_goto (tgt := 2) C dX11_fits_48 (by decide) ?_
              exact ih2 (i + 1) (by omega) (by omega) (all_S hne (fun _ => h40))
            · have h40 : i ≠ c ∧ tog n i c := bz_n0.mp h40
              refine r_iconst C dX11_fits_43 (v := nI 0) (by decide) ?_
              refine r_top (y := bz (∀ d, d < N → (if d < c then tr d else gi d) = some v → ¬ (d ≠ c ∧ tog n d c))) ((bz_f (fun w => w i (by omega) (by rw [if_neg (by omega)]; exact (eo_eq hv (fun u e => by have := hvg i u e; omega)).mp h31) h40)).symm) ?_
              exact hret _ _ _ () rfl (Or.inr ⟨_, rfl, dX11_fits_44, Or.inr ⟨rfl, bz_01 _⟩⟩)
        · have h12 : ¬ (c ≤ i) := fun e9 => h12 ((nI_leI (by omega) (by omega)).mpr e9)
          refine r_aload_n C dX11_fits_15 0 rfl rfl ?_
          refine r_get C dX11_fits_16 iX11_fits_X11 16 fX11_fits_33 0 rfl rfl (by decide) rfl ?_
          refine r_iload_n C dX11_fits_19 3 rfl rfl ?_
          refine r_iald C dX11_fits_20 1 rfl (by omega) (by omega) ?_
          refine r_goto (tgt := 30) C dX11_fits_21 (by decide) ?_
          refine r_iload_n C dX11_fits_30 2 rfl rfl ?_
          refine r_icmp_ne (tgt := 45) C dX11_fits_31 (by decide) (fun h31 => ?_) (fun h31 => ?_)
          · refine r_iinc C dX11_fits_45 3 rfl (v := nI (i + 1)) (nI_add _ _) (by decide) [1, 2, 3, 0] (lv' := [(0, .ref rM), (1, .int (nI c)), (2, .int (nI v)), (3, .int (nI (i + 1)))]) rfl ?_
            refine r_goto (tgt := 2) C dX11_fits_48 (by decide) ?_
            exact ih2 (i + 1) (by omega) (by omega) (all_S hne (fun w => absurd (show eo (tr i) = nI v by rw [if_pos (show i < c by omega)] at w; rw [w]; rfl) h31))
          · refine r_aload_n C dX11_fits_34 0 rfl rfl ?_
            refine r_iload_n C dX11_fits_35 3 rfl rfl ?_
            refine r_iload_n C dX11_fits_36 1 rfl rfl ?_
            refine r_callV0 (n := 2) (ws' := fun (u : Unit) => [(rM, .inr (12, [.int (nI tn), .int (nI n), .int (nI (n / 2)), .int (nI 2), .int (nI sy), .ref rTh, .int (nI ez), .int la, .int ma, .long x, .ref rTe, .int (bz md), .ref rPu, .ref rWh, .ref rGi, .ref rDr, .ref rTr, .ref rKn, .ref rRo, .int (nI rws), .int (nI sz), .ref rTx])), (rTr, .inl (X.1.2.1, 36, .inl (eb tr))), (rGi, .inl (X.1.2.1, 36, .inl (eb gi)))]) C dX11_fits_37 (c_X11_sees (g := X.1) (l := X.2.2.1) (rM := rM) (rTh := rTh) (rTe := rTe) (rPu := rPu) (rWh := rWh) (rGi := rGi) (rDr := rDr) (rTr := rTr) (rKn := rKn) (rRo := rRo) (rTx := rTx) (tn := tn) (n := n) (N := N) (sy := sy) (ez := ez) (la := la) (ma := ma) (x := x) (md := md) (rws := rws) (sz := sz) (a := i) (b := c) (hn := (by first | assumption | omega)) (ha := (by omega)) (hb := hc)) gX11_fits_X11_sees rfl (by decide +kernel) rfl ⟨Nat.le_of_ble_eq_true rfl, Nat.le_of_ble_eq_true rfl⟩ ⟨rfl, rfl⟩ ⟨Nat.zero_le _, Nat.zero_le _⟩ (rest := []) rfl (Nat.le_of_ble_eq_true rfl) 0 rfl rfl [0] (by decide) rfl (fun u => Eq.trans (b := [rM]) rfl rfl) (fun u => rfl) (fun v u hp => ?_)
            obtain rfl := hp
            show RW X 0 0 40 [(0, .ref rM), (1, .int (nI c)), (2, .int (nI v)), (3, .int (nI i))] [.int (bz (i ≠ c ∧ tog n i c))] [(rM, .inr (12, [.int (nI tn), .int (nI n), .int (nI (n / 2)), .int (nI 2), .int (nI sy), .ref rTh, .int (nI ez), .int la, .int ma, .long x, .ref rTe, .int (bz md), .ref rPu, .ref rWh, .ref rGi, .ref rDr, .ref rTr, .ref rKn, .ref rRo, .int (nI rws), .int (nI sz), .ref rTx])), (rTr, .inl (X.1.2.1, 36, .inl (eb tr))), (rGi, .inl (X.1.2.1, 36, .inl (eb gi)))]
            refine r_if_eq (tgt := 45) C dX11_fits_40 (by decide) (fun h40 => ?_) (fun h40 => ?_)
            · have h40 : ¬ (i ≠ c ∧ tog n i c) := bz_0.mp h40
              refine r_iinc C dX11_fits_45 3 rfl (v := nI (i + 1)) (nI_add _ _) (by decide) [1, 2, 3, 0] (lv' := [(0, .ref rM), (1, .int (nI c)), (2, .int (nI v)), (3, .int (nI (i + 1)))]) rfl ?_
              refine r_goto (tgt := 2) C dX11_fits_48 (by decide) ?_
              exact ih2 (i + 1) (by omega) (by omega) (all_S hne (fun _ => h40))
            · have h40 : i ≠ c ∧ tog n i c := bz_n0.mp h40
              refine r_iconst C dX11_fits_43 (v := nI 0) (by decide) ?_
              refine r_top (y := bz (∀ d, d < N → (if d < c then tr d else gi d) = some v → ¬ (d ≠ c ∧ tog n d c))) ((bz_f (fun w => w i (by omega) (by rw [if_pos (show i < c by omega)]; exact (eo_eq hv (fun u e => by have := hvt i u e; omega)).mp h31) h40)).symm) ?_
              exact hret _ _ _ () rfl (Or.inr ⟨_, rfl, dX11_fits_44, Or.inr ⟨rfl, bz_01 _⟩⟩)
  exact L2 ((N - 0) + 1) 0 (Nat.lt_succ_self _) (Nat.zero_le _) (fun d q => absurd q (Nat.not_lt_zero d))
