theorem eo_nI {v : Nat} (hv : v < 2147483648 := by omega) : ¬ eo none = nI v := fun e => by
  have h := nI_pos' hv
  rw [← e] at h
  exact absurd h (by decide)
theorem ush_lN (x : Int64) : (x.toUInt64 >>> ((nI 33).toInt64.toUInt64 &&& Int64.toUInt64 63)).toInt64 = lN (hb x) := by
  have h := uN_lN ((x.toUInt64 >>> ((nI 33).toInt64.toUInt64 &&& Int64.toUInt64 63)).toInt64)
  rw [hb_ushr] at h
  exact h
theorem and_S {i : Nat} {al : Prop} {P : Nat → Prop} (h : al ↔ ∀ w, w < i → P w) : (al ∧ P i) ↔ ∀ w, w < i + 1 → P w :=
  ⟨fun q => all_S (h.mp q.1) q.2, fun q => ⟨h.mpr (fun w r => q w (by omega)), q i (by omega)⟩⟩
theorem or_S {i : Nat} {aa Q : Prop} {P : Nat → Prop} (h : aa ↔ Q ∨ ∃ k, k < i ∧ P k) (hn : ¬ aa) : P i ↔ Q ∨ ∃ k, k < i + 1 ∧ P k :=
  ⟨fun q => Or.inr ⟨i, by omega, q⟩, fun q => q.elim (fun r => absurd (h.mpr (Or.inl r)) hn) (fun ⟨k, q1, q2⟩ => by
    by_cases e : k = i
    · rw [← e]; exact q2
    · exact absurd (h.mpr (Or.inr ⟨k, by omega, q2⟩)) hn)⟩
theorem sg_end {i : Nat} {Q : Prop} {P : Nat → Prop} (h : i = 3) : (Q ∨ ∃ k, k < i ∧ P k) ↔ (Q ∨ ∃ k, k < 3 ∧ P k) := by rw [h]
theorem sg_true {i : Nat} {Q : Prop} {P : Nat → Prop} (h : Q ∨ ∃ k, k < i ∧ P k) (hi : i ≤ 3) : (Q ∨ ∃ k, k < i ∧ P k) ↔ (Q ∨ ∃ k, k < 3 ∧ P k) :=
  ⟨fun _ => h.elim Or.inl (fun ⟨k, q1, q2⟩ => Or.inr ⟨k, by omega, q2⟩), fun _ => h⟩
theorem fX11_may_36 : Cond.fieldLink RX11 36 (TX11 17).1 (TX11 17).2.1 (TX11 17).2.2.1 ∈ wsX11_may := List.mem_of_getElem? (i := 1) rfl
theorem iX11_may_X11 : ∀ w ∈ wsX110, w ∈ wsX11_may := by decide +kernel
set_option maxHeartbeats 4000000 in
set_option maxRecDepth 100000 in
theorem c_X11_may {g : ww_G} {l : Launch} {rM : Nat} {rTh : Nat} {rTe : Nat} {rPu : Nat} {rWh : Nat} {rGi : Nat} {rDr : Nat} {rTr : Nat} {rKn : Nat} {rRo : Nat} {rTx : Nat} {tn : Nat} {n : Nat} {N : Nat} {sy : Nat} {ez : Nat} {la : Int32} {ma : Int32} {x : Int64} {md : Prop} {rws : Nat} {sz : Nat} {kn : Nat → Option Nat} {c : Nat} {v : Nat} (hn : (n = 4 ∧ N = 16) ∨ (n = 6 ∧ N = 36)) (hc : c < N) (hv : v < n) (hk : ∀ c v, kn c = some v → v < n) : CT g l yX11_may wsX11_may (ww_rm 2) [.ref rM, .int (nI c), .int (nI v)] ([(rM, .inr (12, [.int (nI tn), .int (nI n), .int (nI (n / 2)), .int (nI 2), .int (nI sy), .ref rTh, .int (nI ez), .int la, .int ma, .long x, .ref rTe, .int (bz md), .ref rPu, .ref rWh, .ref rGi, .ref rDr, .ref rTr, .ref rKn, .ref rRo, .int (nI rws), .int (nI sz), .ref rTx])), (rKn, .inl (g.2.1, 36, .inl (eb kn)))]) (S := Unit) (fun vv9 u => vv9 = some (.int (bz (kn c = none ∧ mayP n N kn c v)))) (fun u => [(rM, .inr (12, [.int (nI tn), .int (nI n), .int (nI (n / 2)), .int (nI 2), .int (nI sy), .ref rTh, .int (nI ez), .int la, .int ma, .long x, .ref rTe, .int (bz md), .ref rPu, .ref rWh, .ref rGi, .ref rDr, .ref rTr, .ref rKn, .ref rRo, .int (nI rws), .int (nI sz), .ref rTx])), (rKn, .inl (g.2.1, 36, .inl (eb kn)))]) := by
  refine CT.of cX11_may 4 (some .boolean) RX11 (by decide +kernel) rfl rfl (Nat.le_of_ble_eq_true rfl) ?_
  intro X hg hl C hret
  subst hg; subst hl
  show RW X 0 0 0 [(0, .ref rM), (1, .int (nI c)), (2, .int (nI v))] [] [(rM, .inr (12, [.int (nI tn), .int (nI n), .int (nI (n / 2)), .int (nI 2), .int (nI sy), .ref rTh, .int (nI ez), .int la, .int ma, .long x, .ref rTe, .int (bz md), .ref rPu, .ref rWh, .ref rGi, .ref rDr, .ref rTr, .ref rKn, .ref rRo, .int (nI rws), .int (nI sz), .ref rTx])), (rKn, .inl (X.1.2.1, 36, .inl (eb kn)))]
  refine r_aload_n C dX11_may_0 0 rfl rfl ?_
  refine r_get C dX11_may_1 iX11_may_X11 17 fX11_may_36 0 rfl rfl (by decide) rfl ?_
  refine r_iload_n C dX11_may_4 1 rfl rfl ?_
  refine r_iald C dX11_may_5 1 rfl (by omega) (by omega) ?_
  refine r_if_lt (tgt := 11) C dX11_may_6 (by decide) (fun h6 => ?_) (fun h6 => ?_)
  · have h0 : kn c = none := eo_none h6 (hk c) (by omega)
    refine r_iconst C dX11_may_11 (v := nI 0) (by decide) ?_
    refine r_istore_n C dX11_may_12 rfl (by decide) [1, 2, 3, 0] (lv' := [(0, .ref rM), (1, .int (nI c)), (2, .int (nI v)), (3, .int (nI 0))]) rfl ?_
    have L13 : ∀ (d13 : Nat) (i : Nat), (N - i) < d13 → (i ≤ N) → (∀ d, d < i → tog n c d → kn d ≠ some v) → RW X 0 0 13 [(0, .ref rM), (1, .int (nI c)), (2, .int (nI v)), (3, .int (nI i))] [] [(rM, .inr (12, [.int (nI tn), .int (nI n), .int (nI (n / 2)), .int (nI 2), .int (nI sy), .ref rTh, .int (nI ez), .int la, .int ma, .long x, .ref rTe, .int (bz md), .ref rPu, .ref rWh, .ref rGi, .ref rDr, .ref rTr, .ref rKn, .ref rRo, .int (nI rws), .int (nI sz), .ref rTx])), (rKn, .inl (X.1.2.1, 36, .inl (eb kn)))] := by
      intro d13
      induction d13 with
      | zero => intro i hd13; exact absurd hd13 (Nat.not_lt_zero _)
      | succ d13 ih13 =>
        intro i hd13 hi hne
        refine r_iload_n C dX11_may_13 3 rfl rfl ?_
        refine r_aload_n C dX11_may_14 0 rfl rfl ?_
        refine r_callV0 (n := 0) (ws' := fun (u : Unit) => [(rM, .inr (12, [.int (nI tn), .int (nI n), .int (nI (n / 2)), .int (nI 2), .int (nI sy), .ref rTh, .int (nI ez), .int la, .int ma, .long x, .ref rTe, .int (bz md), .ref rPu, .ref rWh, .ref rGi, .ref rDr, .ref rTr, .ref rKn, .ref rRo, .int (nI rws), .int (nI sz), .ref rTx])), (rKn, .inl (X.1.2.1, 36, .inl (eb kn)))]) C dX11_may_15 (c_X11_cells (g := X.1) (l := X.2.2.1) (rM := rM) (rTh := rTh) (rTe := rTe) (rPu := rPu) (rWh := rWh) (rGi := rGi) (rDr := rDr) (rTr := rTr) (rKn := rKn) (rRo := rRo) (rTx := rTx) (tn := tn) (n := n) (N := N) (sy := sy) (ez := ez) (la := la) (ma := ma) (x := x) (md := md) (rws := rws) (sz := sz) (hn := (by first | assumption | omega))) gX11_may_X11_cells rfl (by decide +kernel) rfl ⟨Nat.le_of_ble_eq_true rfl, Nat.le_of_ble_eq_true rfl⟩ ⟨rfl, rfl⟩ ⟨Nat.zero_le _, Nat.zero_le _⟩ (rest := [.int (nI i)]) rfl (Nat.le_of_ble_eq_true rfl) 0 rfl rfl [0] (by decide) rfl (fun u => Eq.trans (b := [rM]) rfl rfl) (fun u => rfl) (fun v u hp => ?_)
        obtain rfl := hp
        show RW X 0 0 18 [(0, .ref rM), (1, .int (nI c)), (2, .int (nI v)), (3, .int (nI i))] [.int (nI N), .int (nI i)] [(rM, .inr (12, [.int (nI tn), .int (nI n), .int (nI (n / 2)), .int (nI 2), .int (nI sy), .ref rTh, .int (nI ez), .int la, .int ma, .long x, .ref rTe, .int (bz md), .ref rPu, .ref rWh, .ref rGi, .ref rDr, .ref rTr, .ref rKn, .ref rRo, .int (nI rws), .int (nI sz), .ref rTx])), (rKn, .inl (X.1.2.1, 36, .inl (eb kn)))]
        refine r_icmp_ge (tgt := 48) C dX11_may_18 (by decide) (fun h18 => ?_) (fun h18 => ?_)
        · have h18 : N ≤ i := (nI_leI (by omega) (by omega)).mp h18
          refine r_iconst C dX11_may_48 (v := nI 1) (by decide) ?_
          refine r_top (y := bz (kn c = none ∧ mayP n N kn c v)) ((bz_t ⟨h0, hv, fun d q => hne d (by omega)⟩).symm) ?_
          exact hret _ _ _ () rfl (Or.inr ⟨_, rfl, dX11_may_49, Or.inr ⟨rfl, bz_01 _⟩⟩)
        · have h18 : ¬ (N ≤ i) := fun e9 => h18 ((nI_leI (by omega) (by omega)).mpr e9)
          refine r_aload_n C dX11_may_21 0 rfl rfl ?_
          refine r_get C dX11_may_22 iX11_may_X11 17 fX11_may_36 0 rfl rfl (by decide) rfl ?_
          refine r_iload_n C dX11_may_25 3 rfl rfl ?_
          refine r_iald C dX11_may_26 1 rfl (by omega) (by omega) ?_
          refine r_iload_n C dX11_may_27 2 rfl rfl ?_
          refine r_icmp_ne (tgt := 42) C dX11_may_28 (by decide) (fun h28 => ?_) (fun h28 => ?_)
          · refine r_iinc C dX11_may_42 3 rfl (v := nI (i + 1)) (nI_add _ _) (by decide) [1, 2, 3, 0] (lv' := [(0, .ref rM), (1, .int (nI c)), (2, .int (nI v)), (3, .int (nI (i + 1)))]) rfl ?_
            refine r_goto (tgt := 13) C dX11_may_45 (by decide) ?_
            exact ih13 (i + 1) (by omega) (by omega) (all_S hne (fun ht w => absurd (show eo (kn i) = nI v by rw [w]; rfl) h28))
          · refine r_aload_n C dX11_may_31 0 rfl rfl ?_
            refine r_iload_n C dX11_may_32 3 rfl rfl ?_
            refine r_iload_n C dX11_may_33 1 rfl rfl ?_
            refine r_callV0 (n := 2) (ws' := fun (u : Unit) => [(rM, .inr (12, [.int (nI tn), .int (nI n), .int (nI (n / 2)), .int (nI 2), .int (nI sy), .ref rTh, .int (nI ez), .int la, .int ma, .long x, .ref rTe, .int (bz md), .ref rPu, .ref rWh, .ref rGi, .ref rDr, .ref rTr, .ref rKn, .ref rRo, .int (nI rws), .int (nI sz), .ref rTx])), (rKn, .inl (X.1.2.1, 36, .inl (eb kn)))]) C dX11_may_34 (c_X11_sees (g := X.1) (l := X.2.2.1) (rM := rM) (rTh := rTh) (rTe := rTe) (rPu := rPu) (rWh := rWh) (rGi := rGi) (rDr := rDr) (rTr := rTr) (rKn := rKn) (rRo := rRo) (rTx := rTx) (tn := tn) (n := n) (N := N) (sy := sy) (ez := ez) (la := la) (ma := ma) (x := x) (md := md) (rws := rws) (sz := sz) (a := i) (b := c) (hn := (by first | assumption | omega)) (ha := (by omega)) (hb := hc)) gX11_may_X11_sees rfl (by decide +kernel) rfl ⟨Nat.le_of_ble_eq_true rfl, Nat.le_of_ble_eq_true rfl⟩ ⟨rfl, rfl⟩ ⟨Nat.zero_le _, Nat.zero_le _⟩ (rest := []) rfl (Nat.le_of_ble_eq_true rfl) 0 rfl rfl [0] (by decide) rfl (fun u => Eq.trans (b := [rM]) rfl rfl) (fun u => rfl) (fun v u hp => ?_)
            obtain rfl := hp
            show RW X 0 0 37 [(0, .ref rM), (1, .int (nI c)), (2, .int (nI v)), (3, .int (nI i))] [.int (bz (i ≠ c ∧ tog n i c))] [(rM, .inr (12, [.int (nI tn), .int (nI n), .int (nI (n / 2)), .int (nI 2), .int (nI sy), .ref rTh, .int (nI ez), .int la, .int ma, .long x, .ref rTe, .int (bz md), .ref rPu, .ref rWh, .ref rGi, .ref rDr, .ref rTr, .ref rKn, .ref rRo, .int (nI rws), .int (nI sz), .ref rTx])), (rKn, .inl (X.1.2.1, 36, .inl (eb kn)))]
            refine r_if_eq (tgt := 42) C dX11_may_37 (by decide) (fun h37 => ?_) (fun h37 => ?_)
            · have h37 : ¬ (i ≠ c ∧ tog n i c) := bz_0.mp h37
              refine r_iinc C dX11_may_42 3 rfl (v := nI (i + 1)) (nI_add _ _) (by decide) [1, 2, 3, 0] (lv' := [(0, .ref rM), (1, .int (nI c)), (2, .int (nI v)), (3, .int (nI (i + 1)))]) rfl ?_
              refine r_goto (tgt := 13) C dX11_may_45 (by decide) ?_
              exact ih13 (i + 1) (by omega) (by omega) (all_S hne (fun ht _ => h37 ⟨fun e => by rw [e] at h28; exact absurd h28 (by show ¬ eo (kn c) = nI v; rw [h0]; exact eo_nI), tog_sym ht⟩))
            · have h37 : i ≠ c ∧ tog n i c := bz_n0.mp h37
              refine r_iconst C dX11_may_40 (v := nI 0) (by decide) ?_
              refine r_top (y := bz (kn c = none ∧ mayP n N kn c v)) ((bz_f (fun w => w.2.2 i (by omega) (tog_sym h37.2) ((eo_eq (by omega) (fun u e => by have := hk i u e; omega)).mp h28))).symm) ?_
              exact hret _ _ _ () rfl (Or.inr ⟨_, rfl, dX11_may_41, Or.inr ⟨rfl, bz_01 _⟩⟩)
    exact L13 ((N - 0) + 1) 0 (Nat.lt_succ_self _) (Nat.zero_le _) (fun d q => absurd q (Nat.not_lt_zero d))
  · refine r_iconst C dX11_may_9 (v := nI 0) (by decide) ?_
    refine r_top (y := bz (kn c = none ∧ mayP n N kn c v)) ((bz_f (fun w => eo_nn h6 w.1)).symm) ?_
    exact hret _ _ _ () rfl (Or.inr ⟨_, rfl, dX11_may_10, Or.inr ⟨rfl, bz_01 _⟩⟩)
theorem fX11_mayDraw_30 : Cond.fieldLink RX11 30 (TX11 15).1 (TX11 15).2.1 (TX11 15).2.2.1 ∈ wsX11_mayDraw := List.mem_of_getElem? (i := 1) rfl
theorem iX11_mayDraw_X11 : ∀ w ∈ wsX110, w ∈ wsX11_mayDraw := by decide +kernel
set_option maxHeartbeats 4000000 in
set_option maxRecDepth 100000 in
theorem c_X11_mayDraw {g : ww_G} {l : Launch} {rM : Nat} {rTh : Nat} {rTe : Nat} {rPu : Nat} {rWh : Nat} {rGi : Nat} {rDr : Nat} {rTr : Nat} {rKn : Nat} {rRo : Nat} {rTx : Nat} {tn : Nat} {n : Nat} {N : Nat} {sy : Nat} {ez : Nat} {la : Int32} {ma : Int32} {x : Int64} {md : Prop} {rws : Nat} {sz : Nat} {dr : Nat → Option Nat} {c : Nat} {v : Nat} (hn : (n = 4 ∧ N = 16) ∨ (n = 6 ∧ N = 36)) (hc : c < N) (hv : v < n) (h0 : dr c = none) (hk : ∀ c v, dr c = some v → v < n) : CT g l yX11_mayDraw wsX11_mayDraw (ww_rm 2) [.ref rM, .int (nI c), .int (nI v)] ([(rM, .inr (12, [.int (nI tn), .int (nI n), .int (nI (n / 2)), .int (nI 2), .int (nI sy), .ref rTh, .int (nI ez), .int la, .int ma, .long x, .ref rTe, .int (bz md), .ref rPu, .ref rWh, .ref rGi, .ref rDr, .ref rTr, .ref rKn, .ref rRo, .int (nI rws), .int (nI sz), .ref rTx])), (rDr, .inl (g.2.1, 36, .inl (eb dr)))]) (S := Unit) (fun vv9 u => vv9 = some (.int (bz (mayP n N dr c v)))) (fun u => [(rM, .inr (12, [.int (nI tn), .int (nI n), .int (nI (n / 2)), .int (nI 2), .int (nI sy), .ref rTh, .int (nI ez), .int la, .int ma, .long x, .ref rTe, .int (bz md), .ref rPu, .ref rWh, .ref rGi, .ref rDr, .ref rTr, .ref rKn, .ref rRo, .int (nI rws), .int (nI sz), .ref rTx])), (rDr, .inl (g.2.1, 36, .inl (eb dr)))]) := by
  refine CT.of cX11_mayDraw 4 (some .boolean) RX11 (by decide +kernel) rfl rfl (Nat.le_of_ble_eq_true rfl) ?_
  intro X hg hl C hret
  subst hg; subst hl
  show RW X 0 0 0 [(0, .ref rM), (1, .int (nI c)), (2, .int (nI v))] [] [(rM, .inr (12, [.int (nI tn), .int (nI n), .int (nI (n / 2)), .int (nI 2), .int (nI sy), .ref rTh, .int (nI ez), .int la, .int ma, .long x, .ref rTe, .int (bz md), .ref rPu, .ref rWh, .ref rGi, .ref rDr, .ref rTr, .ref rKn, .ref rRo, .int (nI rws), .int (nI sz), .ref rTx])), (rDr, .inl (X.1.2.1, 36, .inl (eb dr)))]
  refine r_iconst C dX11_mayDraw_0 (v := nI 0) (by decide) ?_
  refine r_istore_n C dX11_mayDraw_1 rfl (by decide) [1, 2, 3, 0] (lv' := [(0, .ref rM), (1, .int (nI c)), (2, .int (nI v)), (3, .int (nI 0))]) rfl ?_
  have L2 : ∀ (d2 : Nat) (i : Nat), (N - i) < d2 → (i ≤ N) → (∀ d, d < i → tog n c d → dr d ≠ some v) → RW X 0 0 2 [(0, .ref rM), (1, .int (nI c)), (2, .int (nI v)), (3, .int (nI i))] [] [(rM, .inr (12, [.int (nI tn), .int (nI n), .int (nI (n / 2)), .int (nI 2), .int (nI sy), .ref rTh, .int (nI ez), .int la, .int ma, .long x, .ref rTe, .int (bz md), .ref rPu, .ref rWh, .ref rGi, .ref rDr, .ref rTr, .ref rKn, .ref rRo, .int (nI rws), .int (nI sz), .ref rTx])), (rDr, .inl (X.1.2.1, 36, .inl (eb dr)))] := by
    intro d2
    induction d2 with
    | zero => intro i hd2; exact absurd hd2 (Nat.not_lt_zero _)
    | succ d2 ih2 =>
      intro i hd2 hi hne
      refine r_iload_n C dX11_mayDraw_2 3 rfl rfl ?_
      refine r_aload_n C dX11_mayDraw_3 0 rfl rfl ?_
      refine r_callV0 (n := 0) (ws' := fun (u : Unit) => [(rM, .inr (12, [.int (nI tn), .int (nI n), .int (nI (n / 2)), .int (nI 2), .int (nI sy), .ref rTh, .int (nI ez), .int la, .int ma, .long x, .ref rTe, .int (bz md), .ref rPu, .ref rWh, .ref rGi, .ref rDr, .ref rTr, .ref rKn, .ref rRo, .int (nI rws), .int (nI sz), .ref rTx])), (rDr, .inl (X.1.2.1, 36, .inl (eb dr)))]) C dX11_mayDraw_4 (c_X11_cells (g := X.1) (l := X.2.2.1) (rM := rM) (rTh := rTh) (rTe := rTe) (rPu := rPu) (rWh := rWh) (rGi := rGi) (rDr := rDr) (rTr := rTr) (rKn := rKn) (rRo := rRo) (rTx := rTx) (tn := tn) (n := n) (N := N) (sy := sy) (ez := ez) (la := la) (ma := ma) (x := x) (md := md) (rws := rws) (sz := sz) (hn := (by first | assumption | omega))) gX11_mayDraw_X11_cells rfl (by decide +kernel) rfl ⟨Nat.le_of_ble_eq_true rfl, Nat.le_of_ble_eq_true rfl⟩ ⟨rfl, rfl⟩ ⟨Nat.zero_le _, Nat.zero_le _⟩ (rest := [.int (nI i)]) rfl (Nat.le_of_ble_eq_true rfl) 0 rfl rfl [0] (by decide) rfl (fun u => Eq.trans (b := [rM]) rfl rfl) (fun u => rfl) (fun v u hp => ?_)
      obtain rfl := hp
      show RW X 0 0 7 [(0, .ref rM), (1, .int (nI c)), (2, .int (nI v)), (3, .int (nI i))] [.int (nI N), .int (nI i)] [(rM, .inr (12, [.int (nI tn), .int (nI n), .int (nI (n / 2)), .int (nI 2), .int (nI sy), .ref rTh, .int (nI ez), .int la, .int ma, .long x, .ref rTe, .int (bz md), .ref rPu, .ref rWh, .ref rGi, .ref rDr, .ref rTr, .ref rKn, .ref rRo, .int (nI rws), .int (nI sz), .ref rTx])), (rDr, .inl (X.1.2.1, 36, .inl (eb dr)))]
      refine r_icmp_ge (tgt := 37) C dX11_mayDraw_7 (by decide) (fun h7 => ?_) (fun h7 => ?_)
      · have h7 : N ≤ i := (nI_leI (by omega) (by omega)).mp h7
        refine r_iconst C dX11_mayDraw_37 (v := nI 1) (by decide) ?_
        refine r_top (y := bz (mayP n N dr c v)) ((bz_t ⟨hv, fun d q => hne d (by omega)⟩).symm) ?_
        exact hret _ _ _ () rfl (Or.inr ⟨_, rfl, dX11_mayDraw_38, Or.inr ⟨rfl, bz_01 _⟩⟩)
      · have h7 : ¬ (N ≤ i) := fun e9 => h7 ((nI_leI (by omega) (by omega)).mpr e9)
        refine r_aload_n C dX11_mayDraw_10 0 rfl rfl ?_
        refine r_get C dX11_mayDraw_11 iX11_mayDraw_X11 15 fX11_mayDraw_30 0 rfl rfl (by decide) rfl ?_
        refine r_iload_n C dX11_mayDraw_14 3 rfl rfl ?_
        refine r_iald C dX11_mayDraw_15 1 rfl (by omega) (by omega) ?_
        refine r_iload_n C dX11_mayDraw_16 2 rfl rfl ?_
        refine r_icmp_ne (tgt := 31) C dX11_mayDraw_17 (by decide) (fun h17 => ?_) (fun h17 => ?_)
        · refine r_iinc C dX11_mayDraw_31 3 rfl (v := nI (i + 1)) (nI_add _ _) (by decide) [1, 2, 3, 0] (lv' := [(0, .ref rM), (1, .int (nI c)), (2, .int (nI v)), (3, .int (nI (i + 1)))]) rfl ?_
          refine r_goto (tgt := 2) C dX11_mayDraw_34 (by decide) ?_
          exact ih2 (i + 1) (by omega) (by omega) (all_S hne (fun ht w => absurd (show eo (dr i) = nI v by rw [w]; rfl) h17))
        · refine r_aload_n C dX11_mayDraw_20 0 rfl rfl ?_
          refine r_iload_n C dX11_mayDraw_21 3 rfl rfl ?_
          refine r_iload_n C dX11_mayDraw_22 1 rfl rfl ?_
          refine r_callV0 (n := 2) (ws' := fun (u : Unit) => [(rM, .inr (12, [.int (nI tn), .int (nI n), .int (nI (n / 2)), .int (nI 2), .int (nI sy), .ref rTh, .int (nI ez), .int la, .int ma, .long x, .ref rTe, .int (bz md), .ref rPu, .ref rWh, .ref rGi, .ref rDr, .ref rTr, .ref rKn, .ref rRo, .int (nI rws), .int (nI sz), .ref rTx])), (rDr, .inl (X.1.2.1, 36, .inl (eb dr)))]) C dX11_mayDraw_23 (c_X11_sees (g := X.1) (l := X.2.2.1) (rM := rM) (rTh := rTh) (rTe := rTe) (rPu := rPu) (rWh := rWh) (rGi := rGi) (rDr := rDr) (rTr := rTr) (rKn := rKn) (rRo := rRo) (rTx := rTx) (tn := tn) (n := n) (N := N) (sy := sy) (ez := ez) (la := la) (ma := ma) (x := x) (md := md) (rws := rws) (sz := sz) (a := i) (b := c) (hn := (by first | assumption | omega)) (ha := (by omega)) (hb := hc)) gX11_mayDraw_X11_sees rfl (by decide +kernel) rfl ⟨Nat.le_of_ble_eq_true rfl, Nat.le_of_ble_eq_true rfl⟩ ⟨rfl, rfl⟩ ⟨Nat.zero_le _, Nat.zero_le _⟩ (rest := []) rfl (Nat.le_of_ble_eq_true rfl) 0 rfl rfl [0] (by decide) rfl (fun u => Eq.trans (b := [rM]) rfl rfl) (fun u => rfl) (fun v u hp => ?_)
          obtain rfl := hp
          show RW X 0 0 26 [(0, .ref rM), (1, .int (nI c)), (2, .int (nI v)), (3, .int (nI i))] [.int (bz (i ≠ c ∧ tog n i c))] [(rM, .inr (12, [.int (nI tn), .int (nI n), .int (nI (n / 2)), .int (nI 2), .int (nI sy), .ref rTh, .int (nI ez), .int la, .int ma, .long x, .ref rTe, .int (bz md), .ref rPu, .ref rWh, .ref rGi, .ref rDr, .ref rTr, .ref rKn, .ref rRo, .int (nI rws), .int (nI sz), .ref rTx])), (rDr, .inl (X.1.2.1, 36, .inl (eb dr)))]
          refine r_if_eq (tgt := 31) C dX11_mayDraw_26 (by decide) (fun h26 => ?_) (fun h26 => ?_)
          · have h26 : ¬ (i ≠ c ∧ tog n i c) := bz_0.mp h26
            refine r_iinc C dX11_mayDraw_31 3 rfl (v := nI (i + 1)) (nI_add _ _) (by decide) [1, 2, 3, 0] (lv' := [(0, .ref rM), (1, .int (nI c)), (2, .int (nI v)), (3, .int (nI (i + 1)))]) rfl ?_
            refine r_goto (tgt := 2) C dX11_mayDraw_34 (by decide) ?_
            exact ih2 (i + 1) (by omega) (by omega) (all_S hne (fun ht _ => h26 ⟨fun e => by rw [e] at h17; exact absurd h17 (by show ¬ eo (dr c) = nI v; rw [h0]; exact eo_nI), tog_sym ht⟩))
          · have h26 : i ≠ c ∧ tog n i c := bz_n0.mp h26
            refine r_iconst C dX11_mayDraw_29 (v := nI 0) (by decide) ?_
            refine r_top (y := bz (mayP n N dr c v)) ((bz_f (fun w => w.2 i (by omega) (tog_sym h26.2) ((eo_eq (by omega) (fun u e => by have := hk i u e; omega)).mp h17))).symm) ?_
            exact hret _ _ _ () rfl (Or.inr ⟨_, rfl, dX11_mayDraw_30, Or.inr ⟨rfl, bz_01 _⟩⟩)
  exact L2 ((N - 0) + 1) 0 (Nat.lt_succ_self _) (Nat.zero_le _) (fun d q => absurd q (Nat.not_lt_zero d))
theorem fX11_countDraw_45 : Cond.fieldLink RX11 45 (TX11 1).1 (TX11 1).2.1 (TX11 1).2.2.1 ∈ wsX11_countDraw := List.mem_of_getElem? (i := 1) rfl
theorem iX11_countDraw_X11 : ∀ w ∈ wsX110, w ∈ wsX11_countDraw := by decide +kernel
set_option maxHeartbeats 4000000 in
set_option maxRecDepth 100000 in
theorem c_X11_countDraw {g : ww_G} {l : Launch} {rM : Nat} {rTh : Nat} {rTe : Nat} {rPu : Nat} {rWh : Nat} {rGi : Nat} {rDr : Nat} {rTr : Nat} {rKn : Nat} {rRo : Nat} {rTx : Nat} {tn : Nat} {n : Nat} {N : Nat} {sy : Nat} {ez : Nat} {la : Int32} {ma : Int32} {x : Int64} {md : Prop} {rws : Nat} {sz : Nat} {dr : Nat → Option Nat} {c : Nat} (hn : (n = 4 ∧ N = 16) ∨ (n = 6 ∧ N = 36)) (hc : c < N) (h0 : dr c = none) (hk : ∀ c v, dr c = some v → v < n) : CT g l yX11_countDraw wsX11_countDraw (ww_rm 3) [.ref rM, .int (nI c)] ([(rM, .inr (12, [.int (nI tn), .int (nI n), .int (nI (n / 2)), .int (nI 2), .int (nI sy), .ref rTh, .int (nI ez), .int la, .int ma, .long x, .ref rTe, .int (bz md), .ref rPu, .ref rWh, .ref rGi, .ref rDr, .ref rTr, .ref rKn, .ref rRo, .int (nI rws), .int (nI sz), .ref rTx])), (rDr, .inl (g.2.1, 36, .inl (eb dr)))]) (S := Unit) (fun vv9 u => vv9 = some (.int (nI (cn (mayP n N dr c) n)))) (fun u => [(rM, .inr (12, [.int (nI tn), .int (nI n), .int (nI (n / 2)), .int (nI 2), .int (nI sy), .ref rTh, .int (nI ez), .int la, .int ma, .long x, .ref rTe, .int (bz md), .ref rPu, .ref rWh, .ref rGi, .ref rDr, .ref rTr, .ref rKn, .ref rRo, .int (nI rws), .int (nI sz), .ref rTx])), (rDr, .inl (g.2.1, 36, .inl (eb dr)))]) := by
  refine CT.of cX11_countDraw 4 (some .int) RX11 (by decide +kernel) rfl rfl (Nat.le_of_ble_eq_true rfl) ?_
  intro X hg hl C hret
  subst hg; subst hl
  show RW X 0 0 0 [(0, .ref rM), (1, .int (nI c))] [] [(rM, .inr (12, [.int (nI tn), .int (nI n), .int (nI (n / 2)), .int (nI 2), .int (nI sy), .ref rTh, .int (nI ez), .int la, .int ma, .long x, .ref rTe, .int (bz md), .ref rPu, .ref rWh, .ref rGi, .ref rDr, .ref rTr, .ref rKn, .ref rRo, .int (nI rws), .int (nI sz), .ref rTx])), (rDr, .inl (X.1.2.1, 36, .inl (eb dr)))]
  refine r_iconst C dX11_countDraw_0 (v := nI 0) (by decide) ?_
  refine r_istore_n C dX11_countDraw_1 rfl (by decide) [1, 2, 0] (lv' := [(0, .ref rM), (1, .int (nI c)), (2, .int (nI 0))]) rfl ?_
  refine r_iconst C dX11_countDraw_2 (v := nI 0) (by decide) ?_
  refine r_istore_n C dX11_countDraw_3 rfl (by decide) [1, 2, 3, 0] (lv' := [(0, .ref rM), (1, .int (nI c)), (2, .int (nI 0)), (3, .int (nI 0))]) rfl ?_
  have L4 : ∀ (d4 : Nat) (i : Nat), (n - i) < d4 → (i ≤ n) → RW X 0 0 4 [(0, .ref rM), (1, .int (nI c)), (2, .int (nI (cn (mayP n N dr c) i))), (3, .int (nI i))] [] [(rM, .inr (12, [.int (nI tn), .int (nI n), .int (nI (n / 2)), .int (nI 2), .int (nI sy), .ref rTh, .int (nI ez), .int la, .int ma, .long x, .ref rTe, .int (bz md), .ref rPu, .ref rWh, .ref rGi, .ref rDr, .ref rTr, .ref rKn, .ref rRo, .int (nI rws), .int (nI sz), .ref rTx])), (rDr, .inl (X.1.2.1, 36, .inl (eb dr)))] := by
    intro d4
    induction d4 with
    | zero => intro i hd4; exact absurd hd4 (Nat.not_lt_zero _)
    | succ d4 ih4 =>
      intro i hd4 hi
      refine r_iload_n C dX11_countDraw_4 3 rfl rfl ?_
      refine r_aload_n C dX11_countDraw_5 0 rfl rfl ?_
      refine r_get C dX11_countDraw_6 iX11_countDraw_X11 1 fX11_countDraw_45 0 rfl rfl (by decide) rfl ?_
      refine r_icmp_ge (tgt := 35) C dX11_countDraw_9 (by decide) (fun h9 => ?_) (fun h9 => ?_)
      · have h9 : n ≤ i := (nI_leI (by omega) (by omega)).mp h9
        refine r_iload_n C dX11_countDraw_35 2 rfl rfl ?_
        refine r_top (y := nI (cn (mayP n N dr c) n)) (by rw [show i = n by omega]) ?_
        exact hret _ _ _ () rfl (Or.inr ⟨_, rfl, dX11_countDraw_36, Or.inl rfl⟩)
      · have h9 : ¬ (n ≤ i) := fun e9 => h9 ((nI_leI (by omega) (by omega)).mpr e9)
        refine r_iload_n C dX11_countDraw_12 2 rfl rfl ?_
        refine r_aload_n C dX11_countDraw_13 0 rfl rfl ?_
        refine r_iload_n C dX11_countDraw_14 1 rfl rfl ?_
        refine r_iload_n C dX11_countDraw_15 3 rfl rfl ?_
        refine r_callV0 (n := 2) (ws' := fun (u : Unit) => [(rM, .inr (12, [.int (nI tn), .int (nI n), .int (nI (n / 2)), .int (nI 2), .int (nI sy), .ref rTh, .int (nI ez), .int la, .int ma, .long x, .ref rTe, .int (bz md), .ref rPu, .ref rWh, .ref rGi, .ref rDr, .ref rTr, .ref rKn, .ref rRo, .int (nI rws), .int (nI sz), .ref rTx])), (rDr, .inl (X.1.2.1, 36, .inl (eb dr)))]) C dX11_countDraw_16 (c_X11_mayDraw (g := X.1) (l := X.2.2.1) (rM := rM) (rTh := rTh) (rTe := rTe) (rPu := rPu) (rWh := rWh) (rGi := rGi) (rDr := rDr) (rTr := rTr) (rKn := rKn) (rRo := rRo) (rTx := rTx) (tn := tn) (n := n) (N := N) (sy := sy) (ez := ez) (la := la) (ma := ma) (x := x) (md := md) (rws := rws) (sz := sz) (dr := dr) (c := c) (v := i) (hn := (by first | assumption | omega)) (hc := (by first | assumption | omega)) (hv := (by omega)) (h0 := (by first | assumption | omega)) (hk := (by first | assumption | omega))) gX11_countDraw_X11_mayDraw rfl (by decide +kernel) rfl ⟨Nat.le_of_ble_eq_true rfl, Nat.le_of_ble_eq_true rfl⟩ ⟨rfl, rfl⟩ ⟨Nat.zero_le _, Nat.zero_le _⟩ (rest := [.int (nI (cn (mayP n N dr c) i))]) rfl (Nat.le_of_ble_eq_true rfl) 0 rfl rfl [0, 1] (by decide) rfl (fun u => Eq.trans (b := [rM, rDr]) rfl rfl) (fun u => rfl) (fun v u hp => ?_)
        obtain rfl := hp
        show RW X 0 0 19 [(0, .ref rM), (1, .int (nI c)), (2, .int (nI (cn (mayP n N dr c) i))), (3, .int (nI i))] [.int (bz (mayP n N dr c i)), .int (nI (cn (mayP n N dr c) i))] [(rM, .inr (12, [.int (nI tn), .int (nI n), .int (nI (n / 2)), .int (nI 2), .int (nI sy), .ref rTh, .int (nI ez), .int la, .int ma, .long x, .ref rTe, .int (bz md), .ref rPu, .ref rWh, .ref rGi, .ref rDr, .ref rTr, .ref rKn, .ref rRo, .int (nI rws), .int (nI sz), .ref rTx])), (rDr, .inl (X.1.2.1, 36, .inl (eb dr)))]
        refine r_if_eq (tgt := 26) C dX11_countDraw_19 (by decide) (fun h19 => ?_) (fun h19 => ?_)
        · have h19 : ¬ (mayP n N dr c i) := bz_0.mp h19
          refine r_iconst C dX11_countDraw_26 (v := nI 0) (by decide) ?_
          refine r_top (y := nI (dI (mayP n N dr c i))) (by rw [dI_f h19]) ?_
          refine r_iadd C dX11_countDraw_27 (v := nI ((cn (mayP n N dr c) i) + (dI (mayP n N dr c i)))) (nI_add _ _) ?_
          refine r_istore_n C dX11_countDraw_28 rfl (by decide) [1, 2, 0, 3] (lv' := [(0, .ref rM), (1, .int (nI c)), (2, .int (nI ((cn (mayP n N dr c) i) + (dI (mayP n N dr c i))))), (3, .int (nI i))]) rfl ?_
          refine r_iinc C dX11_countDraw_29 3 rfl (v := nI (i + 1)) (nI_add _ _) (by decide) [1, 2, 3, 0] (lv' := [(0, .ref rM), (1, .int (nI c)), (2, .int (nI ((cn (mayP n N dr c) i) + (dI (mayP n N dr c i))))), (3, .int (nI (i + 1)))]) rfl ?_
          refine r_goto (tgt := 4) C dX11_countDraw_32 (by decide) ?_
          exact ih4 (i + 1) (by omega) (by omega)
        · have h19 : mayP n N dr c i := bz_n0.mp h19
          refine r_iconst C dX11_countDraw_22 (v := nI 1) (by decide) ?_
          refine r_goto (tgt := 27) C dX11_countDraw_23 (by decide) ?_
          refine r_top (y := nI (dI (mayP n N dr c i))) (by rw [dI_t h19]) ?_
          refine r_iadd C dX11_countDraw_27 (v := nI ((cn (mayP n N dr c) i) + (dI (mayP n N dr c i)))) (nI_add _ _) ?_
          refine r_istore_n C dX11_countDraw_28 rfl (by decide) [1, 2, 0, 3] (lv' := [(0, .ref rM), (1, .int (nI c)), (2, .int (nI ((cn (mayP n N dr c) i) + (dI (mayP n N dr c i))))), (3, .int (nI i))]) rfl ?_
          refine r_iinc C dX11_countDraw_29 3 rfl (v := nI (i + 1)) (nI_add _ _) (by decide) [1, 2, 3, 0] (lv' := [(0, .ref rM), (1, .int (nI c)), (2, .int (nI ((cn (mayP n N dr c) i) + (dI (mayP n N dr c i))))), (3, .int (nI (i + 1)))]) rfl ?_
          refine r_goto (tgt := 4) C dX11_countDraw_32 (by decide) ?_
          exact ih4 (i + 1) (by omega) (by omega)
  exact L4 ((n - 0) + 1) 0 (Nat.lt_succ_self _) (Nat.zero_le _)
theorem fX11_empty_30 : Cond.fieldLink RX11 30 (TX11 15).1 (TX11 15).2.1 (TX11 15).2.2.1 ∈ wsX11_empty := List.mem_of_getElem? (i := 1) rfl
theorem iX11_empty_X11 : ∀ w ∈ wsX110, w ∈ wsX11_empty := by decide +kernel
set_option maxHeartbeats 4000000 in
set_option maxRecDepth 100000 in
theorem c_X11_empty {g : ww_G} {l : Launch} {rM : Nat} {rTh : Nat} {rTe : Nat} {rPu : Nat} {rWh : Nat} {rGi : Nat} {rDr : Nat} {rTr : Nat} {rKn : Nat} {rRo : Nat} {rTx : Nat} {tn : Nat} {n : Nat} {N : Nat} {sy : Nat} {ez : Nat} {la : Int32} {ma : Int32} {x : Int64} {md : Prop} {rws : Nat} {sz : Nat} {dr : Nat → Int32}  : CT g l yX11_empty wsX11_empty (ww_rm 1) [.ref rM] ([(rM, .inr (12, [.int (nI tn), .int (nI n), .int (nI (n / 2)), .int (nI 2), .int (nI sy), .ref rTh, .int (nI ez), .int la, .int ma, .long x, .ref rTe, .int (bz md), .ref rPu, .ref rWh, .ref rGi, .ref rDr, .ref rTr, .ref rKn, .ref rRo, .int (nI rws), .int (nI sz), .ref rTx])), (rDr, .inl (g.2.1, 36, .inl dr))]) (S := Unit) (fun vv9 u => vv9 = none) (fun u => [(rM, .inr (12, [.int (nI tn), .int (nI n), .int (nI (n / 2)), .int (nI 2), .int (nI sy), .ref rTh, .int (nI ez), .int la, .int ma, .long x, .ref rTe, .int (bz md), .ref rPu, .ref rWh, .ref rGi, .ref rDr, .ref rTr, .ref rKn, .ref rRo, .int (nI rws), .int (nI sz), .ref rTx])), (rDr, .inl (g.2.1, 36, .inl (eb (fun _ => none))))]) := by
  refine CT.of cX11_empty 2 none RX11 (by decide +kernel) rfl rfl (Nat.le_of_ble_eq_true rfl) ?_
  intro X hg hl C hret
  subst hg; subst hl
  show RW X 0 0 0 [(0, .ref rM)] [] [(rM, .inr (12, [.int (nI tn), .int (nI n), .int (nI (n / 2)), .int (nI 2), .int (nI sy), .ref rTh, .int (nI ez), .int la, .int ma, .long x, .ref rTe, .int (bz md), .ref rPu, .ref rWh, .ref rGi, .ref rDr, .ref rTr, .ref rKn, .ref rRo, .int (nI rws), .int (nI sz), .ref rTx])), (rDr, .inl (X.1.2.1, 36, .inl dr))]
  refine r_iconst C dX11_empty_0 (v := nI 0) (by decide) ?_
  refine r_istore_n C dX11_empty_1 rfl (by decide) [1, 0] (lv' := [(0, .ref rM), (1, .int (nI 0))]) rfl ?_
  have L2 : ∀ (d2 : Nat) (i : Nat) (d1 : Nat → Int32), (36 - i) < d2 → (i ≤ 36) → (∀ c, c < i → d1 c = -1) → RW X 0 0 2 [(0, .ref rM), (1, .int (nI i))] [] [(rM, .inr (12, [.int (nI tn), .int (nI n), .int (nI (n / 2)), .int (nI 2), .int (nI sy), .ref rTh, .int (nI ez), .int la, .int ma, .long x, .ref rTe, .int (bz md), .ref rPu, .ref rWh, .ref rGi, .ref rDr, .ref rTr, .ref rKn, .ref rRo, .int (nI rws), .int (nI sz), .ref rTx])), (rDr, .inl (X.1.2.1, 36, .inl d1))] := by
    intro d2
    induction d2 with
    | zero => intro i d1 hd2; exact absurd hd2 (Nat.not_lt_zero _)
    | succ d2 ih2 =>
      intro i d1 hd2 hi hd1
      refine r_iload_n C dX11_empty_2 1 rfl rfl ?_
      refine r_bipush C dX11_empty_3 (v := nI 36) (by decide) ?_
      refine r_icmp_ge (tgt := 21) C dX11_empty_5 (by decide) (fun h5 => ?_) (fun h5 => ?_)
      · have h5 : 36 ≤ i := (nI_leI (by omega) (by omega)).mp h5
        refine r_arrI 1 rfl (fun j q => hd1 j (by omega)) (ws' := [(rM, .inr (12, [.int (nI tn), .int (nI n), .int (nI (n / 2)), .int (nI 2), .int (nI sy), .ref rTh, .int (nI ez), .int la, .int ma, .long x, .ref rTe, .int (bz md), .ref rPu, .ref rWh, .ref rGi, .ref rDr, .ref rTr, .ref rKn, .ref rRo, .int (nI rws), .int (nI sz), .ref rTx])), (rDr, .inl (X.1.2.1, 36, .inl (eb (fun _ => none))))]) rfl ?_
        exact hret _ _ _ () rfl (Or.inl ⟨rfl, rfl, dX11_empty_21⟩)
      · have h5 : ¬ (36 ≤ i) := fun e9 => h5 ((nI_leI (by omega) (by omega)).mpr e9)
        refine r_aload_n C dX11_empty_8 0 rfl rfl ?_
        refine r_get C dX11_empty_9 iX11_empty_X11 15 fX11_empty_30 0 rfl rfl (by decide) rfl ?_
        refine r_iload_n C dX11_empty_12 1 rfl rfl ?_
        refine r_iconst C dX11_empty_13 (v := (-1)) (by decide) ?_
        refine r_iast C dX11_empty_14 1 rfl (by omega) (by omega) (ws' := [(rM, .inr (12, [.int (nI tn), .int (nI n), .int (nI (n / 2)), .int (nI 2), .int (nI sy), .ref rTh, .int (nI ez), .int la, .int ma, .long x, .ref rTe, .int (bz md), .ref rPu, .ref rWh, .ref rGi, .ref rDr, .ref rTr, .ref rKn, .ref rRo, .int (nI rws), .int (nI sz), .ref rTx])), (rDr, .inl (X.1.2.1, 36, .inl (upd d1 i (-1))))]) rfl ?_
        refine r_iinc C dX11_empty_15 1 rfl (v := nI (i + 1)) (nI_add _ _) (by decide) [1, 0] (lv' := [(0, .ref rM), (1, .int (nI (i + 1)))]) rfl ?_
        refine r_goto (tgt := 2) C dX11_empty_18 (by decide) ?_
        exact ih2 (i + 1) (upd d1 i (-1)) (by omega) (by omega) (up_S (Q := fun _ y => y = -1) hd1 rfl)
  exact L2 ((36 - 0) + 1) 0 dr (Nat.lt_succ_self _) (Nat.zero_le _) (fun c q => absurd q (Nat.not_lt_zero c))
theorem fX11_countGivens_27 : Cond.fieldLink RX11 27 (TX11 14).1 (TX11 14).2.1 (TX11 14).2.2.1 ∈ wsX11_countGivens := List.mem_of_getElem? (i := 1) rfl
theorem iX11_countGivens_X11 : ∀ w ∈ wsX110, w ∈ wsX11_countGivens := by decide +kernel
set_option maxHeartbeats 4000000 in
set_option maxRecDepth 100000 in
theorem c_X11_countGivens {g : ww_G} {l : Launch} {rM : Nat} {rTh : Nat} {rTe : Nat} {rPu : Nat} {rWh : Nat} {rGi : Nat} {rDr : Nat} {rTr : Nat} {rKn : Nat} {rRo : Nat} {rTx : Nat} {tn : Nat} {n : Nat} {N : Nat} {sy : Nat} {ez : Nat} {la : Int32} {ma : Int32} {x : Int64} {md : Prop} {rws : Nat} {sz : Nat} {gi : Nat → Option Nat} (hn : (n = 4 ∧ N = 16) ∨ (n = 6 ∧ N = 36)) (hk : ∀ c v, gi c = some v → v < n) : CT g l yX11_countGivens wsX11_countGivens (ww_rm 2) [.ref rM] ([(rM, .inr (12, [.int (nI tn), .int (nI n), .int (nI (n / 2)), .int (nI 2), .int (nI sy), .ref rTh, .int (nI ez), .int la, .int ma, .long x, .ref rTe, .int (bz md), .ref rPu, .ref rWh, .ref rGi, .ref rDr, .ref rTr, .ref rKn, .ref rRo, .int (nI rws), .int (nI sz), .ref rTx])), (rGi, .inl (g.2.1, 36, .inl (eb gi)))]) (S := Unit) (fun vv9 u => vv9 = some (.int (nI (fil N gi)))) (fun u => [(rM, .inr (12, [.int (nI tn), .int (nI n), .int (nI (n / 2)), .int (nI 2), .int (nI sy), .ref rTh, .int (nI ez), .int la, .int ma, .long x, .ref rTe, .int (bz md), .ref rPu, .ref rWh, .ref rGi, .ref rDr, .ref rTr, .ref rKn, .ref rRo, .int (nI rws), .int (nI sz), .ref rTx])), (rGi, .inl (g.2.1, 36, .inl (eb gi)))]) := by
  refine CT.of cX11_countGivens 3 (some .int) RX11 (by decide +kernel) rfl rfl (Nat.le_of_ble_eq_true rfl) ?_
  intro X hg hl C hret
  subst hg; subst hl
  show RW X 0 0 0 [(0, .ref rM)] [] [(rM, .inr (12, [.int (nI tn), .int (nI n), .int (nI (n / 2)), .int (nI 2), .int (nI sy), .ref rTh, .int (nI ez), .int la, .int ma, .long x, .ref rTe, .int (bz md), .ref rPu, .ref rWh, .ref rGi, .ref rDr, .ref rTr, .ref rKn, .ref rRo, .int (nI rws), .int (nI sz), .ref rTx])), (rGi, .inl (X.1.2.1, 36, .inl (eb gi)))]
  refine r_iconst C dX11_countGivens_0 (v := nI 0) (by decide) ?_
  refine r_istore_n C dX11_countGivens_1 rfl (by decide) [1, 0] (lv' := [(0, .ref rM), (1, .int (nI 0))]) rfl ?_
  refine r_iconst C dX11_countGivens_2 (v := nI 0) (by decide) ?_
  refine r_istore_n C dX11_countGivens_3 rfl (by decide) [1, 2, 0] (lv' := [(0, .ref rM), (1, .int (nI 0)), (2, .int (nI 0))]) rfl ?_
  have L4 : ∀ (d4 : Nat) (i : Nat), (N - i) < d4 → (i ≤ N) → RW X 0 0 4 [(0, .ref rM), (1, .int (nI (cn (fun c => gi c ≠ none) i))), (2, .int (nI i))] [] [(rM, .inr (12, [.int (nI tn), .int (nI n), .int (nI (n / 2)), .int (nI 2), .int (nI sy), .ref rTh, .int (nI ez), .int la, .int ma, .long x, .ref rTe, .int (bz md), .ref rPu, .ref rWh, .ref rGi, .ref rDr, .ref rTr, .ref rKn, .ref rRo, .int (nI rws), .int (nI sz), .ref rTx])), (rGi, .inl (X.1.2.1, 36, .inl (eb gi)))] := by
    intro d4
    induction d4 with
    | zero => intro i hd4; exact absurd hd4 (Nat.not_lt_zero _)
    | succ d4 ih4 =>
      intro i hd4 hi
      refine r_iload_n C dX11_countGivens_4 2 rfl rfl ?_
      refine r_aload_n C dX11_countGivens_5 0 rfl rfl ?_
      refine r_callV0 (n := 0) (ws' := fun (u : Unit) => [(rM, .inr (12, [.int (nI tn), .int (nI n), .int (nI (n / 2)), .int (nI 2), .int (nI sy), .ref rTh, .int (nI ez), .int la, .int ma, .long x, .ref rTe, .int (bz md), .ref rPu, .ref rWh, .ref rGi, .ref rDr, .ref rTr, .ref rKn, .ref rRo, .int (nI rws), .int (nI sz), .ref rTx])), (rGi, .inl (X.1.2.1, 36, .inl (eb gi)))]) C dX11_countGivens_6 (c_X11_cells (g := X.1) (l := X.2.2.1) (rM := rM) (rTh := rTh) (rTe := rTe) (rPu := rPu) (rWh := rWh) (rGi := rGi) (rDr := rDr) (rTr := rTr) (rKn := rKn) (rRo := rRo) (rTx := rTx) (tn := tn) (n := n) (N := N) (sy := sy) (ez := ez) (la := la) (ma := ma) (x := x) (md := md) (rws := rws) (sz := sz) (hn := (by first | assumption | omega))) gX11_countGivens_X11_cells rfl (by decide +kernel) rfl ⟨Nat.le_of_ble_eq_true rfl, Nat.le_of_ble_eq_true rfl⟩ ⟨rfl, rfl⟩ ⟨Nat.zero_le _, Nat.zero_le _⟩ (rest := [.int (nI i)]) rfl (Nat.le_of_ble_eq_true rfl) 0 rfl rfl [0] (by decide) rfl (fun u => Eq.trans (b := [rM]) rfl rfl) (fun u => rfl) (fun v u hp => ?_)
      obtain rfl := hp
      show RW X 0 0 9 [(0, .ref rM), (1, .int (nI (cn (fun c => gi c ≠ none) i))), (2, .int (nI i))] [.int (nI N), .int (nI i)] [(rM, .inr (12, [.int (nI tn), .int (nI n), .int (nI (n / 2)), .int (nI 2), .int (nI sy), .ref rTh, .int (nI ez), .int la, .int ma, .long x, .ref rTe, .int (bz md), .ref rPu, .ref rWh, .ref rGi, .ref rDr, .ref rTr, .ref rKn, .ref rRo, .int (nI rws), .int (nI sz), .ref rTx])), (rGi, .inl (X.1.2.1, 36, .inl (eb gi)))]
      refine r_icmp_ge (tgt := 35) C dX11_countGivens_9 (by decide) (fun h9 => ?_) (fun h9 => ?_)
      · have h9 : N ≤ i := (nI_leI (by omega) (by omega)).mp h9
        refine r_iload_n C dX11_countGivens_35 1 rfl rfl ?_
        refine r_top (y := nI (fil N gi)) (by rw [show i = N by omega]; rfl) ?_
        exact hret _ _ _ () rfl (Or.inr ⟨_, rfl, dX11_countGivens_36, Or.inl rfl⟩)
      · have h9 : ¬ (N ≤ i) := fun e9 => h9 ((nI_leI (by omega) (by omega)).mpr e9)
        refine r_iload_n C dX11_countGivens_12 1 rfl rfl ?_
        refine r_aload_n C dX11_countGivens_13 0 rfl rfl ?_
        refine r_get C dX11_countGivens_14 iX11_countGivens_X11 14 fX11_countGivens_27 0 rfl rfl (by decide) rfl ?_
        refine r_iload_n C dX11_countGivens_17 2 rfl rfl ?_
        refine r_iald C dX11_countGivens_18 1 rfl (by omega) (by omega) ?_
        refine r_if_lt (tgt := 26) C dX11_countGivens_19 (by decide) (fun h19 => ?_) (fun h19 => ?_)
        · refine r_iconst C dX11_countGivens_26 (v := nI 0) (by decide) ?_
          refine r_top (y := nI (dI (gi i ≠ none))) (by rw [dI_f (fun w => w (eo_none h19 (hk i) (by omega)))]) ?_
          refine r_iadd C dX11_countGivens_27 (v := nI ((cn (fun c => gi c ≠ none) i) + (dI (gi i ≠ none)))) (nI_add _ _) ?_
          refine r_istore_n C dX11_countGivens_28 rfl (by decide) [1, 0, 2] (lv' := [(0, .ref rM), (1, .int (nI ((cn (fun c => gi c ≠ none) i) + (dI (gi i ≠ none))))), (2, .int (nI i))]) rfl ?_
          refine r_iinc C dX11_countGivens_29 2 rfl (v := nI (i + 1)) (nI_add _ _) (by decide) [1, 2, 0] (lv' := [(0, .ref rM), (1, .int (nI ((cn (fun c => gi c ≠ none) i) + (dI (gi i ≠ none))))), (2, .int (nI (i + 1)))]) rfl ?_
          refine r_goto (tgt := 4) C dX11_countGivens_32 (by decide) ?_
          exact ih4 (i + 1) (by omega) (by omega)
        · refine r_iconst C dX11_countGivens_22 (v := nI 1) (by decide) ?_
          refine r_goto (tgt := 27) C dX11_countGivens_23 (by decide) ?_
          refine r_top (y := nI (dI (gi i ≠ none))) (by rw [dI_t (eo_nn h19)]) ?_
          refine r_iadd C dX11_countGivens_27 (v := nI ((cn (fun c => gi c ≠ none) i) + (dI (gi i ≠ none)))) (nI_add _ _) ?_
          refine r_istore_n C dX11_countGivens_28 rfl (by decide) [1, 0, 2] (lv' := [(0, .ref rM), (1, .int (nI ((cn (fun c => gi c ≠ none) i) + (dI (gi i ≠ none))))), (2, .int (nI i))]) rfl ?_
          refine r_iinc C dX11_countGivens_29 2 rfl (v := nI (i + 1)) (nI_add _ _) (by decide) [1, 2, 0] (lv' := [(0, .ref rM), (1, .int (nI ((cn (fun c => gi c ≠ none) i) + (dI (gi i ≠ none))))), (2, .int (nI (i + 1)))]) rfl ?_
          refine r_goto (tgt := 4) C dX11_countGivens_32 (by decide) ?_
          exact ih4 (i + 1) (by omega) (by omega)
  exact L4 ((N - 0) + 1) 0 (Nat.lt_succ_self _) (Nat.zero_le _)
theorem fX11_below_102 : Cond.fieldLink RX11 102 (TX11 9).1 (TX11 9).2.1 (TX11 9).2.2.1 ∈ wsX11_below := List.mem_of_getElem? (i := 1) rfl
theorem iX11_below_X11 : ∀ w ∈ wsX110, w ∈ wsX11_below := by decide +kernel
theorem kX11_below_106 : Cond.constantLong RX11 106 (6364136223846793005) ∈ wsX11_below := List.mem_of_getElem? (i := 2) rfl
theorem kX11_below_108 : Cond.constantLong RX11 108 (1442695040888963407) ∈ wsX11_below := List.mem_of_getElem? (i := 3) rfl
set_option maxHeartbeats 4000000 in
set_option maxRecDepth 100000 in
theorem c_X11_below {g : ww_G} {l : Launch} {rM : Nat} {rTh : Nat} {rTe : Nat} {rPu : Nat} {rWh : Nat} {rGi : Nat} {rDr : Nat} {rTr : Nat} {rKn : Nat} {rRo : Nat} {rTx : Nat} {tn : Nat} {n : Nat} {N : Nat} {sy : Nat} {ez : Nat} {la : Int32} {ma : Int32} {x : Int64} {md : Prop} {rws : Nat} {sz : Nat} {k : Nat} (hk : 1 ≤ k) (hk2 : k < 2147483648) : CT g l yX11_below wsX11_below (ww_rm 1) [.ref rM, .int (nI k)] ([(rM, .inr (12, [.int (nI tn), .int (nI n), .int (nI (n / 2)), .int (nI 2), .int (nI sy), .ref rTh, .int (nI ez), .int la, .int ma, .long x, .ref rTe, .int (bz md), .ref rPu, .ref rWh, .ref rGi, .ref rDr, .ref rTr, .ref rKn, .ref rRo, .int (nI rws), .int (nI sz), .ref rTx]))]) (S := Unit) (fun vv9 u => vv9 = some (.int (nI (hb (nx x) % k)))) (fun u => [(rM, .inr (12, [.int (nI tn), .int (nI n), .int (nI (n / 2)), .int (nI 2), .int (nI sy), .ref rTh, .int (nI ez), .int la, .int ma, .long (nx x), .ref rTe, .int (bz md), .ref rPu, .ref rWh, .ref rGi, .ref rDr, .ref rTr, .ref rKn, .ref rRo, .int (nI rws), .int (nI sz), .ref rTx]))]) := by
  refine CT.of cX11_below 2 (some .int) RX11 (by decide +kernel) rfl rfl (Nat.le_of_ble_eq_true rfl) ?_
  intro X hg hl C hret
  subst hg; subst hl
  show RW X 0 0 0 [(0, .ref rM), (1, .int (nI k))] [] [(rM, .inr (12, [.int (nI tn), .int (nI n), .int (nI (n / 2)), .int (nI 2), .int (nI sy), .ref rTh, .int (nI ez), .int la, .int ma, .long x, .ref rTe, .int (bz md), .ref rPu, .ref rWh, .ref rGi, .ref rDr, .ref rTr, .ref rKn, .ref rRo, .int (nI rws), .int (nI sz), .ref rTx]))]
  refine r_aload_n C dX11_below_0 0 rfl rfl ?_
  refine r_aload_n C dX11_below_1 0 rfl rfl ?_
  refine r_get C dX11_below_2 iX11_below_X11 9 fX11_below_102 0 rfl rfl (by decide) rfl ?_
  refine r_ldc2 C dX11_below_5 kX11_below_106 ?_
  refine r_lmul C dX11_below_8 (v := x * 6364136223846793005) rfl ?_
  refine r_ldc2 C dX11_below_9 kX11_below_108 ?_
  refine r_ladd C dX11_below_12 (v := nx x) (by unfold nx; rw [Int64.mul_comm]) ?_
  refine r_put C dX11_below_13 iX11_below_X11 tyX11 tyX11_ok nmX11 9 fX11_below_102 0 rfl rfl (by decide) rfl rfl rfl rfl (Nat.le_of_ble_eq_true rfl) (ws' := [(rM, .inr (12, [.int (nI tn), .int (nI n), .int (nI (n / 2)), .int (nI 2), .int (nI sy), .ref rTh, .int (nI ez), .int la, .int ma, .long (nx x), .ref rTe, .int (bz md), .ref rPu, .ref rWh, .ref rGi, .ref rDr, .ref rTr, .ref rKn, .ref rRo, .int (nI rws), .int (nI sz), .ref rTx]))]) rfl ?_
  refine r_aload_n C dX11_below_16 0 rfl rfl ?_
  refine r_get C dX11_below_17 iX11_below_X11 9 fX11_below_102 0 rfl rfl (by decide) rfl ?_
  refine r_bipush C dX11_below_20 (v := nI 33) (by decide) ?_
  refine r_lushr C dX11_below_22 (v := ((nx x).toUInt64 >>> ((nI 33).toInt64.toUInt64 &&& Int64.toUInt64 63)).toInt64) rfl ?_
  refine r_iload_n C dX11_below_23 1 rfl rfl ?_
  refine r_i2l C dX11_below_24 (v := lN k) (nI_l hk2) ?_
  refine r_lrem C dX11_below_25 (fun e => by have := (pk_lEQ (a := k) (b := 0) (by omega) (by omega)).mp e; omega) (v := lN (hb (nx x) % k)) (by rw [ush_lN]; exact pk_lRem (by have := hb_lt (nx x); omega) (by omega) (by omega)) ?_
  refine r_l2i C dX11_below_26 (v := nI (hb (nx x) % k)) (lN_i _) ?_
  exact hret _ _ _ () rfl (Or.inr ⟨_, rfl, dX11_below_27, Or.inl rfl⟩)
theorem fX11_take_27 : Cond.fieldLink RX11 27 (TX11 14).1 (TX11 14).2.1 (TX11 14).2.2.1 ∈ wsX11_take := List.mem_of_getElem? (i := 1) rfl
theorem iX11_take_X11 : ∀ w ∈ wsX110, w ∈ wsX11_take := by decide +kernel
theorem fX11_take_21 : Cond.fieldLink RX11 21 (TX11 12).1 (TX11 12).2.1 (TX11 12).2.2.1 ∈ wsX11_take := List.mem_of_getElem? (i := 2) rfl
set_option maxHeartbeats 4000000 in
set_option maxRecDepth 100000 in
theorem c_X11_take {g : ww_G} {l : Launch} {rM : Nat} {rTh : Nat} {rTe : Nat} {rPu : Nat} {rWh : Nat} {rGi : Nat} {rDr : Nat} {rTr : Nat} {rKn : Nat} {rRo : Nat} {rTx : Nat} {tn : Nat} {n : Nat} {N : Nat} {sy : Nat} {ez : Nat} {la : Int32} {ma : Int32} {x : Int64} {md : Prop} {rws : Nat} {sz : Nat} {gi : Nat → Option Nat} {pu : Nat → Option Nat}  : CT g l yX11_take wsX11_take (ww_rm 1) [.ref rM] ([(rM, .inr (12, [.int (nI tn), .int (nI n), .int (nI (n / 2)), .int (nI 2), .int (nI sy), .ref rTh, .int (nI ez), .int la, .int ma, .long x, .ref rTe, .int (bz md), .ref rPu, .ref rWh, .ref rGi, .ref rDr, .ref rTr, .ref rKn, .ref rRo, .int (nI rws), .int (nI sz), .ref rTx])), (rGi, .inl (g.2.1, 36, .inl (eb gi))), (rPu, .inl (g.2.1, 36, .inl (eb pu)))]) (S := Unit) (fun vv9 u => vv9 = none) (fun u => [(rM, .inr (12, [.int (nI tn), .int (nI n), .int (nI (n / 2)), .int (nI 2), .int (nI sy), .ref rTh, .int (nI ez), .int la, .int ma, .long x, .ref rTe, .int (bz md), .ref rPu, .ref rWh, .ref rGi, .ref rDr, .ref rTr, .ref rKn, .ref rRo, .int (nI rws), .int (nI sz), .ref rTx])), (rGi, .inl (g.2.1, 36, .inl (eb pu))), (rPu, .inl (g.2.1, 36, .inl (eb pu)))]) := by
  refine CT.of cX11_take 2 none RX11 (by decide +kernel) rfl rfl (Nat.le_of_ble_eq_true rfl) ?_
  intro X hg hl C hret
  subst hg; subst hl
  show RW X 0 0 0 [(0, .ref rM)] [] [(rM, .inr (12, [.int (nI tn), .int (nI n), .int (nI (n / 2)), .int (nI 2), .int (nI sy), .ref rTh, .int (nI ez), .int la, .int ma, .long x, .ref rTe, .int (bz md), .ref rPu, .ref rWh, .ref rGi, .ref rDr, .ref rTr, .ref rKn, .ref rRo, .int (nI rws), .int (nI sz), .ref rTx])), (rGi, .inl (X.1.2.1, 36, .inl (eb gi))), (rPu, .inl (X.1.2.1, 36, .inl (eb pu)))]
  refine r_iconst C dX11_take_0 (v := nI 0) (by decide) ?_
  refine r_istore_n C dX11_take_1 rfl (by decide) [1, 0] (lv' := [(0, .ref rM), (1, .int (nI 0))]) rfl ?_
  have L2 : ∀ (d2 : Nat) (i : Nat) (g1 : Nat → Option Nat), (36 - i) < d2 → (i ≤ 36) → (∀ c, c < i → g1 c = pu c) → RW X 0 0 2 [(0, .ref rM), (1, .int (nI i))] [] [(rM, .inr (12, [.int (nI tn), .int (nI n), .int (nI (n / 2)), .int (nI 2), .int (nI sy), .ref rTh, .int (nI ez), .int la, .int ma, .long x, .ref rTe, .int (bz md), .ref rPu, .ref rWh, .ref rGi, .ref rDr, .ref rTr, .ref rKn, .ref rRo, .int (nI rws), .int (nI sz), .ref rTx])), (rGi, .inl (X.1.2.1, 36, .inl (eb g1))), (rPu, .inl (X.1.2.1, 36, .inl (eb pu)))] := by
    intro d2
    induction d2 with
    | zero => intro i g1 hd2; exact absurd hd2 (Nat.not_lt_zero _)
    | succ d2 ih2 =>
      intro i g1 hd2 hi hg1
      refine r_iload_n C dX11_take_2 1 rfl rfl ?_
      refine r_bipush C dX11_take_3 (v := nI 36) (by decide) ?_
      refine r_icmp_ge (tgt := 26) C dX11_take_5 (by decide) (fun h5 => ?_) (fun h5 => ?_)
      · have h5 : 36 ≤ i := (nI_leI (by omega) (by omega)).mp h5
        refine r_arrI 1 rfl (fun j q => congrArg eo (hg1 j (by omega))) (ws' := [(rM, .inr (12, [.int (nI tn), .int (nI n), .int (nI (n / 2)), .int (nI 2), .int (nI sy), .ref rTh, .int (nI ez), .int la, .int ma, .long x, .ref rTe, .int (bz md), .ref rPu, .ref rWh, .ref rGi, .ref rDr, .ref rTr, .ref rKn, .ref rRo, .int (nI rws), .int (nI sz), .ref rTx])), (rGi, .inl (X.1.2.1, 36, .inl (eb pu))), (rPu, .inl (X.1.2.1, 36, .inl (eb pu)))]) rfl ?_
        exact hret _ _ _ () rfl (Or.inl ⟨rfl, rfl, dX11_take_26⟩)
      · have h5 : ¬ (36 ≤ i) := fun e9 => h5 ((nI_leI (by omega) (by omega)).mpr e9)
        refine r_aload_n C dX11_take_8 0 rfl rfl ?_
        refine r_get C dX11_take_9 iX11_take_X11 14 fX11_take_27 0 rfl rfl (by decide) rfl ?_
        refine r_iload_n C dX11_take_12 1 rfl rfl ?_
        refine r_aload_n C dX11_take_13 0 rfl rfl ?_
        refine r_get C dX11_take_14 iX11_take_X11 12 fX11_take_21 0 rfl rfl (by decide) rfl ?_
        refine r_iload_n C dX11_take_17 1 rfl rfl ?_
        refine r_iald C dX11_take_18 2 rfl (by omega) (by omega) ?_
        refine r_iast C dX11_take_19 1 rfl (by omega) (by omega) (ws' := [(rM, .inr (12, [.int (nI tn), .int (nI n), .int (nI (n / 2)), .int (nI 2), .int (nI sy), .ref rTh, .int (nI ez), .int la, .int ma, .long x, .ref rTe, .int (bz md), .ref rPu, .ref rWh, .ref rGi, .ref rDr, .ref rTr, .ref rKn, .ref rRo, .int (nI rws), .int (nI sz), .ref rTx])), (rGi, .inl (X.1.2.1, 36, .inl (upd (eb g1) i ((eb pu) i)))), (rPu, .inl (X.1.2.1, 36, .inl (eb pu)))]) rfl ?_
        rw [eb_u]
        show RW X 0 0 20 [(0, .ref rM), (1, .int (nI i))] [] [(rM, .inr (12, [.int (nI tn), .int (nI n), .int (nI (n / 2)), .int (nI 2), .int (nI sy), .ref rTh, .int (nI ez), .int la, .int ma, .long x, .ref rTe, .int (bz md), .ref rPu, .ref rWh, .ref rGi, .ref rDr, .ref rTr, .ref rKn, .ref rRo, .int (nI rws), .int (nI sz), .ref rTx])), (rGi, .inl (X.1.2.1, 36, .inl (eb (ub g1 i (pu i))))), (rPu, .inl (X.1.2.1, 36, .inl (eb pu)))]
        refine r_iinc C dX11_take_20 1 rfl (v := nI (i + 1)) (nI_add _ _) (by decide) [1, 0] (lv' := [(0, .ref rM), (1, .int (nI (i + 1)))]) rfl ?_
        refine r_goto (tgt := 2) C dX11_take_23 (by decide) ?_
        exact ih2 (i + 1) (ub g1 i (pu i)) (by omega) (by omega) (all_S (fun c q => by rw [ub_n (by omega)]; exact hg1 c q) ub_s)
  exact L2 ((36 - 0) + 1) 0 gi (Nat.lt_succ_self _) (Nat.zero_le _) (fun c q => absurd q (Nat.not_lt_zero c))
theorem fX11_isSingle_45 : Cond.fieldLink RX11 45 (TX11 1).1 (TX11 1).2.1 (TX11 1).2.2.1 ∈ wsX11_isSingle := List.mem_of_getElem? (i := 1) rfl
theorem iX11_isSingle_X11 : ∀ w ∈ wsX110, w ∈ wsX11_isSingle := by decide +kernel
set_option maxHeartbeats 4000000 in
set_option maxRecDepth 100000 in
theorem c_X11_isSingle {g : ww_G} {l : Launch} {rM : Nat} {rTh : Nat} {rTe : Nat} {rPu : Nat} {rWh : Nat} {rGi : Nat} {rDr : Nat} {rTr : Nat} {rKn : Nat} {rRo : Nat} {rTx : Nat} {tn : Nat} {n : Nat} {N : Nat} {sy : Nat} {ez : Nat} {la : Int32} {ma : Int32} {x : Int64} {md : Prop} {rws : Nat} {sz : Nat} {kn : Nat → Option Nat} {c : Nat} {v : Nat} (hn : (n = 4 ∧ N = 16) ∨ (n = 6 ∧ N = 36)) (hc : c < N) (hv : v < n) (hk : ∀ c v, kn c = some v → v < n) : CT g l yX11_isSingle wsX11_isSingle (ww_rm 3) [.ref rM, .int (nI c), .int (nI v)] ([(rM, .inr (12, [.int (nI tn), .int (nI n), .int (nI (n / 2)), .int (nI 2), .int (nI sy), .ref rTh, .int (nI ez), .int la, .int ma, .long x, .ref rTe, .int (bz md), .ref rPu, .ref rWh, .ref rGi, .ref rDr, .ref rTr, .ref rKn, .ref rRo, .int (nI rws), .int (nI sz), .ref rTx])), (rKn, .inl (g.2.1, 36, .inl (eb kn)))]) (S := Unit) (fun vv9 u => vv9 = some (.int (bz ((∀ u, u < n → u = v ∨ ¬ (kn c = none ∧ mayP n N kn c u)) ∨ ∃ k, k < 3 ∧ ∀ d, d < N → d = c ∨ ¬ uk n k d = uk n k c ∨ ¬ (kn d = none ∧ mayP n N kn d v))))) (fun u => [(rM, .inr (12, [.int (nI tn), .int (nI n), .int (nI (n / 2)), .int (nI 2), .int (nI sy), .ref rTh, .int (nI ez), .int la, .int ma, .long x, .ref rTe, .int (bz md), .ref rPu, .ref rWh, .ref rGi, .ref rDr, .ref rTr, .ref rKn, .ref rRo, .int (nI rws), .int (nI sz), .ref rTx])), (rKn, .inl (g.2.1, 36, .inl (eb kn)))]) := by
  refine CT.of cX11_isSingle 7 (some .boolean) RX11 (by decide +kernel) rfl rfl (Nat.le_of_ble_eq_true rfl) ?_
  intro X hg hl C hret
  subst hg; subst hl
  show RW X 0 0 0 [(0, .ref rM), (1, .int (nI c)), (2, .int (nI v))] [] [(rM, .inr (12, [.int (nI tn), .int (nI n), .int (nI (n / 2)), .int (nI 2), .int (nI sy), .ref rTh, .int (nI ez), .int la, .int ma, .long x, .ref rTe, .int (bz md), .ref rPu, .ref rWh, .ref rGi, .ref rDr, .ref rTr, .ref rKn, .ref rRo, .int (nI rws), .int (nI sz), .ref rTx])), (rKn, .inl (X.1.2.1, 36, .inl (eb kn)))]
  refine r_iconst C dX11_isSingle_0 (v := bz True) (by rw [bz_t trivial]; decide) ?_
  refine r_istore_n C dX11_isSingle_1 rfl (by decide) [1, 2, 3, 0] (lv' := [(0, .ref rM), (1, .int (nI c)), (2, .int (nI v)), (3, .int (bz True))]) rfl ?_
  refine r_iconst C dX11_isSingle_2 (v := nI 0) (by decide) ?_
  refine r_istore C dX11_isSingle_3 (by decide) [1, 2, 3, 4, 0] (lv' := [(0, .ref rM), (1, .int (nI c)), (2, .int (nI v)), (3, .int (bz True)), (4, .int (nI 0))]) rfl ?_
  have L5 : ∀ (d5 : Nat) (uv : Nat) (al : Prop), (n - uv) < d5 → (uv ≤ n) → (al ↔ ∀ w, w < uv → w = v ∨ ¬ (kn c = none ∧ mayP n N kn c w)) → RW X 0 0 5 [(0, .ref rM), (1, .int (nI c)), (2, .int (nI v)), (3, .int (bz al)), (4, .int (nI uv))] [] [(rM, .inr (12, [.int (nI tn), .int (nI n), .int (nI (n / 2)), .int (nI 2), .int (nI sy), .ref rTh, .int (nI ez), .int la, .int ma, .long x, .ref rTe, .int (bz md), .ref rPu, .ref rWh, .ref rGi, .ref rDr, .ref rTr, .ref rKn, .ref rRo, .int (nI rws), .int (nI sz), .ref rTx])), (rKn, .inl (X.1.2.1, 36, .inl (eb kn)))] := by
    intro d5
    induction d5 with
    | zero => intro uv al hd5; exact absurd hd5 (Nat.not_lt_zero _)
    | succ d5 ih5 =>
      intro uv al hd5 hu hal
      refine r_iload C dX11_isSingle_5 4 rfl ?_
      refine r_aload_n C dX11_isSingle_7 0 rfl rfl ?_
      refine r_get C dX11_isSingle_8 iX11_isSingle_X11 1 fX11_isSingle_45 0 rfl rfl (by decide) rfl ?_
      refine r_icmp_ge (tgt := 46) C dX11_isSingle_11 (by decide) (fun h11 => ?_) (fun h11 => ?_)
      · have h11 : n ≤ uv := (nI_leI (by omega) (by omega)).mp h11
        refine r_iconst C dX11_isSingle_46 (v := nI 0) (by decide) ?_
        refine r_istore C dX11_isSingle_47 (by decide) [1, 2, 3, 4, 0] (lv' := [(0, .ref rM), (1, .int (nI c)), (2, .int (nI v)), (3, .int (bz al)), (4, .int (nI 0))]) rfl ?_
        have L49 : ∀ (d49 : Nat) (kd : Nat) (aa : Prop), (3 - kd) < d49 → (kd ≤ 3) → (aa ↔ (∀ u, u < n → u = v ∨ ¬ (kn c = none ∧ mayP n N kn c u)) ∨ ∃ k, k < kd ∧ ∀ d, d < N → d = c ∨ ¬ uk n k d = uk n k c ∨ ¬ (kn d = none ∧ mayP n N kn d v)) → RW X 0 0 49 [(0, .ref rM), (1, .int (nI c)), (2, .int (nI v)), (3, .int (bz aa)), (4, .int (nI kd))] [] [(rM, .inr (12, [.int (nI tn), .int (nI n), .int (nI (n / 2)), .int (nI 2), .int (nI sy), .ref rTh, .int (nI ez), .int la, .int ma, .long x, .ref rTe, .int (bz md), .ref rPu, .ref rWh, .ref rGi, .ref rDr, .ref rTr, .ref rKn, .ref rRo, .int (nI rws), .int (nI sz), .ref rTx])), (rKn, .inl (X.1.2.1, 36, .inl (eb kn)))] := by
          intro d49
          induction d49 with
          | zero => intro kd aa hd49; exact absurd hd49 (Nat.not_lt_zero _)
          | succ d49 ih49 =>
            intro kd aa hd49 hkd haa
            refine r_iload C dX11_isSingle_49 4 rfl ?_
            refine r_iconst C dX11_isSingle_51 (v := nI 3) (by decide) ?_
            refine r_icmp_ge (tgt := 129) C dX11_isSingle_52 (by decide) (fun h52 => ?_) (fun h52 => ?_)
            · have h52 : 3 ≤ kd := (nI_leI (by omega) (by omega)).mp h52
              refine r_iload_n C dX11_isSingle_129 3 rfl rfl ?_
              refine r_top (y := bz ((∀ u, u < n → u = v ∨ ¬ (kn c = none ∧ mayP n N kn c u)) ∨ ∃ k, k < 3 ∧ ∀ d, d < N → d = c ∨ ¬ uk n k d = uk n k c ∨ ¬ (kn d = none ∧ mayP n N kn d v))) (bz_iff (by rw [haa]; exact sg_end (by omega))) ?_
              exact hret _ _ _ () rfl (Or.inr ⟨_, rfl, dX11_isSingle_130, Or.inr ⟨rfl, bz_01 _⟩⟩)
            · have h52 : ¬ (3 ≤ kd) := fun e9 => h52 ((nI_leI (by omega) (by omega)).mpr e9)
              refine r_iload_n C dX11_isSingle_55 3 rfl rfl ?_
              refine r_if_ne (tgt := 129) C dX11_isSingle_56 (by decide) (fun h56 => ?_) (fun h56 => ?_)
              · have h56 : aa := bz_n0.mp h56
                refine r_iload_n C dX11_isSingle_129 3 rfl rfl ?_
                refine r_top (y := bz ((∀ u, u < n → u = v ∨ ¬ (kn c = none ∧ mayP n N kn c u)) ∨ ∃ k, k < 3 ∧ ∀ d, d < N → d = c ∨ ¬ uk n k d = uk n k c ∨ ¬ (kn d = none ∧ mayP n N kn d v))) (bz_iff (by rw [haa]; exact sg_true (haa.mp h56) (by omega))) ?_
                exact hret _ _ _ () rfl (Or.inr ⟨_, rfl, dX11_isSingle_130, Or.inr ⟨rfl, bz_01 _⟩⟩)
              · have h56 : ¬ (aa) := bz_0.mp h56
                refine r_iconst C dX11_isSingle_59 (v := bz True) (by rw [bz_t trivial]; decide) ?_
                refine r_istore C dX11_isSingle_60 (by decide) [1, 2, 3, 4, 5, 0] (lv' := [(0, .ref rM), (1, .int (nI c)), (2, .int (nI v)), (3, .int (bz aa)), (4, .int (nI kd)), (5, .int (bz True))]) rfl ?_
                refine r_iconst C dX11_isSingle_62 (v := nI 0) (by decide) ?_
                refine r_istore C dX11_isSingle_63 (by decide) [1, 2, 3, 4, 5, 6, 0] (lv' := [(0, .ref rM), (1, .int (nI c)), (2, .int (nI v)), (3, .int (bz aa)), (4, .int (nI kd)), (5, .int (bz True)), (6, .int (nI 0))]) rfl ?_
                have L65 : ∀ (d65 : Nat) (d : Nat) (on : Prop), (N - d) < d65 → (d ≤ N) → (on ↔ ∀ e, e < d → e = c ∨ ¬ uk n kd e = uk n kd c ∨ ¬ (kn e = none ∧ mayP n N kn e v)) → RW X 0 0 65 [(0, .ref rM), (1, .int (nI c)), (2, .int (nI v)), (3, .int (bz aa)), (4, .int (nI kd)), (5, .int (bz on)), (6, .int (nI d))] [] [(rM, .inr (12, [.int (nI tn), .int (nI n), .int (nI (n / 2)), .int (nI 2), .int (nI sy), .ref rTh, .int (nI ez), .int la, .int ma, .long x, .ref rTe, .int (bz md), .ref rPu, .ref rWh, .ref rGi, .ref rDr, .ref rTr, .ref rKn, .ref rRo, .int (nI rws), .int (nI sz), .ref rTx])), (rKn, .inl (X.1.2.1, 36, .inl (eb kn)))] := by
                  intro d65
                  induction d65 with
                  | zero => intro d on hd65; exact absurd hd65 (Nat.not_lt_zero _)
                  | succ d65 ih65 =>
                    intro d on hd65 hd hon
                    refine r_iload C dX11_isSingle_65 6 rfl ?_
                    refine r_aload_n C dX11_isSingle_67 0 rfl rfl ?_
                    refine r_callV0 (n := 0) (ws' := fun (u : Unit) => [(rM, .inr (12, [.int (nI tn), .int (nI n), .int (nI (n / 2)), .int (nI 2), .int (nI sy), .ref rTh, .int (nI ez), .int la, .int ma, .long x, .ref rTe, .int (bz md), .ref rPu, .ref rWh, .ref rGi, .ref rDr, .ref rTr, .ref rKn, .ref rRo, .int (nI rws), .int (nI sz), .ref rTx])), (rKn, .inl (X.1.2.1, 36, .inl (eb kn)))]) C dX11_isSingle_68 (c_X11_cells (g := X.1) (l := X.2.2.1) (rM := rM) (rTh := rTh) (rTe := rTe) (rPu := rPu) (rWh := rWh) (rGi := rGi) (rDr := rDr) (rTr := rTr) (rKn := rKn) (rRo := rRo) (rTx := rTx) (tn := tn) (n := n) (N := N) (sy := sy) (ez := ez) (la := la) (ma := ma) (x := x) (md := md) (rws := rws) (sz := sz) (hn := (by first | assumption | omega))) gX11_isSingle_X11_cells rfl (by decide +kernel) rfl ⟨Nat.le_of_ble_eq_true rfl, Nat.le_of_ble_eq_true rfl⟩ ⟨rfl, rfl⟩ ⟨Nat.zero_le _, Nat.zero_le _⟩ (rest := [.int (nI d)]) rfl (Nat.le_of_ble_eq_true rfl) 0 rfl rfl [0] (by decide) rfl (fun u => Eq.trans (b := [rM]) rfl rfl) (fun u => rfl) (fun v u hp => ?_)
                    obtain rfl := hp
                    show RW X 0 0 71 [(0, .ref rM), (1, .int (nI c)), (2, .int (nI v)), (3, .int (bz aa)), (4, .int (nI kd)), (5, .int (bz on)), (6, .int (nI d))] [.int (nI N), .int (nI d)] [(rM, .inr (12, [.int (nI tn), .int (nI n), .int (nI (n / 2)), .int (nI 2), .int (nI sy), .ref rTh, .int (nI ez), .int la, .int ma, .long x, .ref rTe, .int (bz md), .ref rPu, .ref rWh, .ref rGi, .ref rDr, .ref rTr, .ref rKn, .ref rRo, .int (nI rws), .int (nI sz), .ref rTx])), (rKn, .inl (X.1.2.1, 36, .inl (eb kn)))]
                    refine r_icmp_ge (tgt := 120) C dX11_isSingle_71 (by decide) (fun h71 => ?_) (fun h71 => ?_)
                    · have h71 : N ≤ d := (nI_leI (by omega) (by omega)).mp h71
                      refine r_iload C dX11_isSingle_120 5 rfl ?_
                      refine r_istore_n C dX11_isSingle_122 rfl (by decide) [1, 2, 3, 0, 4, 5, 6] (lv' := [(0, .ref rM), (1, .int (nI c)), (2, .int (nI v)), (3, .int (bz on)), (4, .int (nI kd)), (5, .int (bz on)), (6, .int (nI d))]) rfl ?_
                      refine r_iinc C dX11_isSingle_123 4 rfl (v := nI (kd + 1)) (nI_add _ _) (by decide) [1, 2, 3, 4, 0, 5, 6] (lv' := [(0, .ref rM), (1, .int (nI c)), (2, .int (nI v)), (3, .int (bz on)), (4, .int (nI (kd + 1))), (5, .int (bz on)), (6, .int (nI d))]) rfl ?_
                      refine r_goto (tgt := 49) C dX11_isSingle_126 (by decide) ?_
                      refine r_lv [0, 1, 2, 3, 4] (lv' := [(0, .ref rM), (1, .int (nI c)), (2, .int (nI v)), (3, .int (bz on)), (4, .int (nI (kd + 1)))]) rfl ?_
                      exact ih49 (kd + 1) on (by omega) (by omega) (by rw [hon, show d = N by omega]; exact or_S haa h56)
                    · have h71 : ¬ (N ≤ d) := fun e9 => h71 ((nI_leI (by omega) (by omega)).mpr e9)
                      refine r_iload C dX11_isSingle_74 5 rfl ?_
                      refine r_if_eq (tgt := 111) C dX11_isSingle_76 (by decide) (fun h76 => ?_) (fun h76 => ?_)
                      · have h76 : ¬ (on) := bz_0.mp h76
                        refine r_iconst C dX11_isSingle_111 (v := nI 0) (by decide) ?_
                        refine r_top (y := bz (on ∧ (d = c ∨ ¬ uk n kd d = uk n kd c ∨ ¬ (kn d = none ∧ mayP n N kn d v)))) (bz_f (fun w => h76 w.1)).symm ?_
                        refine r_istore C dX11_isSingle_112 (by decide) [1, 2, 3, 4, 5, 0, 6] (lv' := [(0, .ref rM), (1, .int (nI c)), (2, .int (nI v)), (3, .int (bz aa)), (4, .int (nI kd)), (5, .int (bz (on ∧ (d = c ∨ ¬ uk n kd d = uk n kd c ∨ ¬ (kn d = none ∧ mayP n N kn d v))))), (6, .int (nI d))]) rfl ?_
                        refine r_iinc C dX11_isSingle_114 6 rfl (v := nI (d + 1)) (nI_add _ _) (by decide) [1, 2, 3, 4, 5, 6, 0] (lv' := [(0, .ref rM), (1, .int (nI c)), (2, .int (nI v)), (3, .int (bz aa)), (4, .int (nI kd)), (5, .int (bz (on ∧ (d = c ∨ ¬ uk n kd d = uk n kd c ∨ ¬ (kn d = none ∧ mayP n N kn d v))))), (6, .int (nI (d + 1)))]) rfl ?_
                        refine r_goto (tgt := 65) C dX11_isSingle_117 (by decide) ?_
                        exact ih65 (d + 1) (on ∧ (d = c ∨ ¬ uk n kd d = uk n kd c ∨ ¬ (kn d = none ∧ mayP n N kn d v))) (by omega) (by omega) (and_S hon)
                      · have h76 : on := bz_n0.mp h76
                        refine r_iload C dX11_isSingle_79 6 rfl ?_
                        refine r_iload_n C dX11_isSingle_81 1 rfl rfl ?_
                        refine r_icmp_eq (tgt := 107) C dX11_isSingle_82 (by decide) (fun h82 => ?_) (fun h82 => ?_)
                        · have h82 : d = c := (nI_eq (by omega) (by omega)).mp h82
                          refine r_iconst C dX11_isSingle_107 (v := nI 1) (by decide) ?_
                          refine r_goto (tgt := 112) C dX11_isSingle_108 (by decide) ?_
                          refine r_top (y := bz (on ∧ (d = c ∨ ¬ uk n kd d = uk n kd c ∨ ¬ (kn d = none ∧ mayP n N kn d v)))) (bz_t ⟨h76, Or.inl h82⟩).symm ?_
                          refine r_istore C dX11_isSingle_112 (by decide) [1, 2, 3, 4, 5, 0, 6] (lv' := [(0, .ref rM), (1, .int (nI c)), (2, .int (nI v)), (3, .int (bz aa)), (4, .int (nI kd)), (5, .int (bz (on ∧ (d = c ∨ ¬ uk n kd d = uk n kd c ∨ ¬ (kn d = none ∧ mayP n N kn d v))))), (6, .int (nI d))]) rfl ?_
                          refine r_iinc C dX11_isSingle_114 6 rfl (v := nI (d + 1)) (nI_add _ _) (by decide) [1, 2, 3, 4, 5, 6, 0] (lv' := [(0, .ref rM), (1, .int (nI c)), (2, .int (nI v)), (3, .int (bz aa)), (4, .int (nI kd)), (5, .int (bz (on ∧ (d = c ∨ ¬ uk n kd d = uk n kd c ∨ ¬ (kn d = none ∧ mayP n N kn d v))))), (6, .int (nI (d + 1)))]) rfl ?_
                          refine r_goto (tgt := 65) C dX11_isSingle_117 (by decide) ?_
                          exact ih65 (d + 1) (on ∧ (d = c ∨ ¬ uk n kd d = uk n kd c ∨ ¬ (kn d = none ∧ mayP n N kn d v))) (by omega) (by omega) (and_S hon)
                        · have h82 : ¬ (d = c) := fun e9 => h82 ((nI_eq (by omega) (by omega)).mpr e9)
                          refine r_aload_n C dX11_isSingle_85 0 rfl rfl ?_
                          refine r_iload C dX11_isSingle_86 6 rfl ?_
                          refine r_iload_n C dX11_isSingle_88 1 rfl rfl ?_
                          refine r_iload C dX11_isSingle_89 4 rfl ?_
                          refine r_callV0 (n := 3) (ws' := fun (u : Unit) => [(rM, .inr (12, [.int (nI tn), .int (nI n), .int (nI (n / 2)), .int (nI 2), .int (nI sy), .ref rTh, .int (nI ez), .int la, .int ma, .long x, .ref rTe, .int (bz md), .ref rPu, .ref rWh, .ref rGi, .ref rDr, .ref rTr, .ref rKn, .ref rRo, .int (nI rws), .int (nI sz), .ref rTx])), (rKn, .inl (X.1.2.1, 36, .inl (eb kn)))]) C dX11_isSingle_91 (c_X11_isTogether (g := X.1) (l := X.2.2.1) (rM := rM) (rTh := rTh) (rTe := rTe) (rPu := rPu) (rWh := rWh) (rGi := rGi) (rDr := rDr) (rTr := rTr) (rKn := rKn) (rRo := rRo) (rTx := rTx) (tn := tn) (n := n) (N := N) (sy := sy) (ez := ez) (la := la) (ma := ma) (x := x) (md := md) (rws := rws) (sz := sz) (a := d) (b := c) (k := kd) (hn := (by first | assumption | omega)) (ha := (by omega)) (hb := hc) (hk := (by first | assumption | omega))) gX11_isSingle_X11_isTogether rfl (by decide +kernel) rfl ⟨Nat.le_of_ble_eq_true rfl, Nat.le_of_ble_eq_true rfl⟩ ⟨rfl, rfl⟩ ⟨Nat.zero_le _, Nat.zero_le _⟩ (rest := []) rfl (Nat.le_of_ble_eq_true rfl) 0 rfl rfl [0] (by decide) rfl (fun u => Eq.trans (b := [rM]) rfl rfl) (fun u => rfl) (fun v u hp => ?_)
                          obtain rfl := hp
                          show RW X 0 0 94 [(0, .ref rM), (1, .int (nI c)), (2, .int (nI v)), (3, .int (bz aa)), (4, .int (nI kd)), (5, .int (bz on)), (6, .int (nI d))] [.int (bz (uk n kd d = uk n kd c))] [(rM, .inr (12, [.int (nI tn), .int (nI n), .int (nI (n / 2)), .int (nI 2), .int (nI sy), .ref rTh, .int (nI ez), .int la, .int ma, .long x, .ref rTe, .int (bz md), .ref rPu, .ref rWh, .ref rGi, .ref rDr, .ref rTr, .ref rKn, .ref rRo, .int (nI rws), .int (nI sz), .ref rTx])), (rKn, .inl (X.1.2.1, 36, .inl (eb kn)))]
                          refine r_if_eq (tgt := 107) C dX11_isSingle_94 (by decide) (fun h94 => ?_) (fun h94 => ?_)
                          · have h94 : ¬ (uk n kd d = uk n kd c) := bz_0.mp h94
                            refine r_iconst C dX11_isSingle_107 (v := nI 1) (by decide) ?_
                            refine r_goto (tgt := 112) C dX11_isSingle_108 (by decide) ?_
                            refine r_top (y := bz (on ∧ (d = c ∨ ¬ uk n kd d = uk n kd c ∨ ¬ (kn d = none ∧ mayP n N kn d v)))) (bz_t ⟨h76, Or.inr (Or.inl h94)⟩).symm ?_
                            refine r_istore C dX11_isSingle_112 (by decide) [1, 2, 3, 4, 5, 0, 6] (lv' := [(0, .ref rM), (1, .int (nI c)), (2, .int (nI v)), (3, .int (bz aa)), (4, .int (nI kd)), (5, .int (bz (on ∧ (d = c ∨ ¬ uk n kd d = uk n kd c ∨ ¬ (kn d = none ∧ mayP n N kn d v))))), (6, .int (nI d))]) rfl ?_
                            refine r_iinc C dX11_isSingle_114 6 rfl (v := nI (d + 1)) (nI_add _ _) (by decide) [1, 2, 3, 4, 5, 6, 0] (lv' := [(0, .ref rM), (1, .int (nI c)), (2, .int (nI v)), (3, .int (bz aa)), (4, .int (nI kd)), (5, .int (bz (on ∧ (d = c ∨ ¬ uk n kd d = uk n kd c ∨ ¬ (kn d = none ∧ mayP n N kn d v))))), (6, .int (nI (d + 1)))]) rfl ?_
                            refine r_goto (tgt := 65) C dX11_isSingle_117 (by decide) ?_
                            exact ih65 (d + 1) (on ∧ (d = c ∨ ¬ uk n kd d = uk n kd c ∨ ¬ (kn d = none ∧ mayP n N kn d v))) (by omega) (by omega) (and_S hon)
                          · have h94 : uk n kd d = uk n kd c := bz_n0.mp h94
                            refine r_aload_n C dX11_isSingle_97 0 rfl rfl ?_
                            refine r_iload C dX11_isSingle_98 6 rfl ?_
                            refine r_iload_n C dX11_isSingle_100 2 rfl rfl ?_
                            refine r_callV0 (n := 2) (ws' := fun (u : Unit) => [(rM, .inr (12, [.int (nI tn), .int (nI n), .int (nI (n / 2)), .int (nI 2), .int (nI sy), .ref rTh, .int (nI ez), .int la, .int ma, .long x, .ref rTe, .int (bz md), .ref rPu, .ref rWh, .ref rGi, .ref rDr, .ref rTr, .ref rKn, .ref rRo, .int (nI rws), .int (nI sz), .ref rTx])), (rKn, .inl (X.1.2.1, 36, .inl (eb kn)))]) C dX11_isSingle_101 (c_X11_may (g := X.1) (l := X.2.2.1) (rM := rM) (rTh := rTh) (rTe := rTe) (rPu := rPu) (rWh := rWh) (rGi := rGi) (rDr := rDr) (rTr := rTr) (rKn := rKn) (rRo := rRo) (rTx := rTx) (tn := tn) (n := n) (N := N) (sy := sy) (ez := ez) (la := la) (ma := ma) (x := x) (md := md) (rws := rws) (sz := sz) (kn := kn) (c := d) (v := v) (hn := (by first | assumption | omega)) (hc := (by omega)) (hv := (by first | assumption | omega)) (hk := (by first | assumption | omega))) gX11_isSingle_X11_may rfl (by decide +kernel) rfl ⟨Nat.le_of_ble_eq_true rfl, Nat.le_of_ble_eq_true rfl⟩ ⟨rfl, rfl⟩ ⟨Nat.zero_le _, Nat.zero_le _⟩ (rest := []) rfl (Nat.le_of_ble_eq_true rfl) 0 rfl rfl [0, 1] (by decide) rfl (fun u => Eq.trans (b := [rM, rKn]) rfl rfl) (fun u => rfl) (fun v u hp => ?_)
                            obtain rfl := hp
                            show RW X 0 0 104 [(0, .ref rM), (1, .int (nI c)), (2, .int (nI v)), (3, .int (bz aa)), (4, .int (nI kd)), (5, .int (bz on)), (6, .int (nI d))] [.int (bz (kn d = none ∧ mayP n N kn d v))] [(rM, .inr (12, [.int (nI tn), .int (nI n), .int (nI (n / 2)), .int (nI 2), .int (nI sy), .ref rTh, .int (nI ez), .int la, .int ma, .long x, .ref rTe, .int (bz md), .ref rPu, .ref rWh, .ref rGi, .ref rDr, .ref rTr, .ref rKn, .ref rRo, .int (nI rws), .int (nI sz), .ref rTx])), (rKn, .inl (X.1.2.1, 36, .inl (eb kn)))]
                            refine r_if_ne (tgt := 111) C dX11_isSingle_104 (by decide) (fun h104 => ?_) (fun h104 => ?_)
                            · have h104 : kn d = none ∧ mayP n N kn d v := bz_n0.mp h104
                              refine r_iconst C dX11_isSingle_111 (v := nI 0) (by decide) ?_
                              refine r_top (y := bz (on ∧ (d = c ∨ ¬ uk n kd d = uk n kd c ∨ ¬ (kn d = none ∧ mayP n N kn d v)))) (bz_f (fun w => w.2.elim h82 (fun q => q.elim (fun r => r h94) (fun r => r h104)))).symm ?_
                              refine r_istore C dX11_isSingle_112 (by decide) [1, 2, 3, 4, 5, 0, 6] (lv' := [(0, .ref rM), (1, .int (nI c)), (2, .int (nI v)), (3, .int (bz aa)), (4, .int (nI kd)), (5, .int (bz (on ∧ (d = c ∨ ¬ uk n kd d = uk n kd c ∨ ¬ (kn d = none ∧ mayP n N kn d v))))), (6, .int (nI d))]) rfl ?_
                              refine r_iinc C dX11_isSingle_114 6 rfl (v := nI (d + 1)) (nI_add _ _) (by decide) [1, 2, 3, 4, 5, 6, 0] (lv' := [(0, .ref rM), (1, .int (nI c)), (2, .int (nI v)), (3, .int (bz aa)), (4, .int (nI kd)), (5, .int (bz (on ∧ (d = c ∨ ¬ uk n kd d = uk n kd c ∨ ¬ (kn d = none ∧ mayP n N kn d v))))), (6, .int (nI (d + 1)))]) rfl ?_
                              refine r_goto (tgt := 65) C dX11_isSingle_117 (by decide) ?_
                              exact ih65 (d + 1) (on ∧ (d = c ∨ ¬ uk n kd d = uk n kd c ∨ ¬ (kn d = none ∧ mayP n N kn d v))) (by omega) (by omega) (and_S hon)
                            · have h104 : ¬ (kn d = none ∧ mayP n N kn d v) := bz_0.mp h104
                              refine r_iconst C dX11_isSingle_107 (v := nI 1) (by decide) ?_
                              refine r_goto (tgt := 112) C dX11_isSingle_108 (by decide) ?_
                              refine r_top (y := bz (on ∧ (d = c ∨ ¬ uk n kd d = uk n kd c ∨ ¬ (kn d = none ∧ mayP n N kn d v)))) (bz_t ⟨h76, Or.inr (Or.inr h104)⟩).symm ?_
                              refine r_istore C dX11_isSingle_112 (by decide) [1, 2, 3, 4, 5, 0, 6] (lv' := [(0, .ref rM), (1, .int (nI c)), (2, .int (nI v)), (3, .int (bz aa)), (4, .int (nI kd)), (5, .int (bz (on ∧ (d = c ∨ ¬ uk n kd d = uk n kd c ∨ ¬ (kn d = none ∧ mayP n N kn d v))))), (6, .int (nI d))]) rfl ?_
                              refine r_iinc C dX11_isSingle_114 6 rfl (v := nI (d + 1)) (nI_add _ _) (by decide) [1, 2, 3, 4, 5, 6, 0] (lv' := [(0, .ref rM), (1, .int (nI c)), (2, .int (nI v)), (3, .int (bz aa)), (4, .int (nI kd)), (5, .int (bz (on ∧ (d = c ∨ ¬ uk n kd d = uk n kd c ∨ ¬ (kn d = none ∧ mayP n N kn d v))))), (6, .int (nI (d + 1)))]) rfl ?_
                              refine r_goto (tgt := 65) C dX11_isSingle_117 (by decide) ?_
                              exact ih65 (d + 1) (on ∧ (d = c ∨ ¬ uk n kd d = uk n kd c ∨ ¬ (kn d = none ∧ mayP n N kn d v))) (by omega) (by omega) (and_S hon)
                exact L65 ((N - 0) + 1) 0 True (Nat.lt_succ_self _) (Nat.zero_le _) (⟨fun _ d q => absurd q (Nat.not_lt_zero d), fun _ => trivial⟩)
        exact L49 ((3 - 0) + 1) 0 al (Nat.lt_succ_self _) (Nat.zero_le _) (by rw [hal, show uv = n by omega]; exact ⟨Or.inl, fun w => w.elim id (fun ⟨k, q, _⟩ => absurd q (Nat.not_lt_zero k))⟩)
      · have h11 : ¬ (n ≤ uv) := fun e9 => h11 ((nI_leI (by omega) (by omega)).mpr e9)
        refine r_iload_n C dX11_isSingle_14 3 rfl rfl ?_
        refine r_if_eq (tgt := 38) C dX11_isSingle_15 (by decide) (fun h15 => ?_) (fun h15 => ?_)
        · have h15 : ¬ (al) := bz_0.mp h15
          refine r_iconst C dX11_isSingle_38 (v := nI 0) (by decide) ?_
          refine r_top (y := bz (al ∧ (uv = v ∨ ¬ (kn c = none ∧ mayP n N kn c uv)))) (bz_f (fun w => h15 w.1)).symm ?_
          refine r_istore_n C dX11_isSingle_39 rfl (by decide) [1, 2, 3, 0, 4] (lv' := [(0, .ref rM), (1, .int (nI c)), (2, .int (nI v)), (3, .int (bz (al ∧ (uv = v ∨ ¬ (kn c = none ∧ mayP n N kn c uv))))), (4, .int (nI uv))]) rfl ?_
          refine r_iinc C dX11_isSingle_40 4 rfl (v := nI (uv + 1)) (nI_add _ _) (by decide) [1, 2, 3, 4, 0] (lv' := [(0, .ref rM), (1, .int (nI c)), (2, .int (nI v)), (3, .int (bz (al ∧ (uv = v ∨ ¬ (kn c = none ∧ mayP n N kn c uv))))), (4, .int (nI (uv + 1)))]) rfl ?_
          refine r_goto (tgt := 5) C dX11_isSingle_43 (by decide) ?_
          exact ih5 (uv + 1) (al ∧ (uv = v ∨ ¬ (kn c = none ∧ mayP n N kn c uv))) (by omega) (by omega) (and_S hal)
        · have h15 : al := bz_n0.mp h15
          refine r_iload C dX11_isSingle_18 4 rfl ?_
          refine r_iload_n C dX11_isSingle_20 2 rfl rfl ?_
          refine r_icmp_eq (tgt := 34) C dX11_isSingle_21 (by decide) (fun h21 => ?_) (fun h21 => ?_)
          · have h21 : uv = v := (nI_eq (by omega) (by omega)).mp h21
            refine r_iconst C dX11_isSingle_34 (v := nI 1) (by decide) ?_
            refine r_goto (tgt := 39) C dX11_isSingle_35 (by decide) ?_
            refine r_top (y := bz (al ∧ (uv = v ∨ ¬ (kn c = none ∧ mayP n N kn c uv)))) (bz_t ⟨h15, Or.inl h21⟩).symm ?_
            refine r_istore_n C dX11_isSingle_39 rfl (by decide) [1, 2, 3, 0, 4] (lv' := [(0, .ref rM), (1, .int (nI c)), (2, .int (nI v)), (3, .int (bz (al ∧ (uv = v ∨ ¬ (kn c = none ∧ mayP n N kn c uv))))), (4, .int (nI uv))]) rfl ?_
            refine r_iinc C dX11_isSingle_40 4 rfl (v := nI (uv + 1)) (nI_add _ _) (by decide) [1, 2, 3, 4, 0] (lv' := [(0, .ref rM), (1, .int (nI c)), (2, .int (nI v)), (3, .int (bz (al ∧ (uv = v ∨ ¬ (kn c = none ∧ mayP n N kn c uv))))), (4, .int (nI (uv + 1)))]) rfl ?_
            refine r_goto (tgt := 5) C dX11_isSingle_43 (by decide) ?_
            exact ih5 (uv + 1) (al ∧ (uv = v ∨ ¬ (kn c = none ∧ mayP n N kn c uv))) (by omega) (by omega) (and_S hal)
          · have h21 : ¬ (uv = v) := fun e9 => h21 ((nI_eq (by omega) (by omega)).mpr e9)
            refine r_aload_n C dX11_isSingle_24 0 rfl rfl ?_
            refine r_iload_n C dX11_isSingle_25 1 rfl rfl ?_
            refine r_iload C dX11_isSingle_26 4 rfl ?_
            refine r_callV0 (n := 2) (ws' := fun (u : Unit) => [(rM, .inr (12, [.int (nI tn), .int (nI n), .int (nI (n / 2)), .int (nI 2), .int (nI sy), .ref rTh, .int (nI ez), .int la, .int ma, .long x, .ref rTe, .int (bz md), .ref rPu, .ref rWh, .ref rGi, .ref rDr, .ref rTr, .ref rKn, .ref rRo, .int (nI rws), .int (nI sz), .ref rTx])), (rKn, .inl (X.1.2.1, 36, .inl (eb kn)))]) C dX11_isSingle_28 (c_X11_may (g := X.1) (l := X.2.2.1) (rM := rM) (rTh := rTh) (rTe := rTe) (rPu := rPu) (rWh := rWh) (rGi := rGi) (rDr := rDr) (rTr := rTr) (rKn := rKn) (rRo := rRo) (rTx := rTx) (tn := tn) (n := n) (N := N) (sy := sy) (ez := ez) (la := la) (ma := ma) (x := x) (md := md) (rws := rws) (sz := sz) (kn := kn) (c := c) (v := uv) (hn := (by first | assumption | omega)) (hc := (by first | assumption | omega)) (hv := (by omega)) (hk := (by first | assumption | omega))) gX11_isSingle_X11_may rfl (by decide +kernel) rfl ⟨Nat.le_of_ble_eq_true rfl, Nat.le_of_ble_eq_true rfl⟩ ⟨rfl, rfl⟩ ⟨Nat.zero_le _, Nat.zero_le _⟩ (rest := []) rfl (Nat.le_of_ble_eq_true rfl) 0 rfl rfl [0, 1] (by decide) rfl (fun u => Eq.trans (b := [rM, rKn]) rfl rfl) (fun u => rfl) (fun v u hp => ?_)
            obtain rfl := hp
            show RW X 0 0 31 [(0, .ref rM), (1, .int (nI c)), (2, .int (nI v)), (3, .int (bz al)), (4, .int (nI uv))] [.int (bz (kn c = none ∧ mayP n N kn c uv))] [(rM, .inr (12, [.int (nI tn), .int (nI n), .int (nI (n / 2)), .int (nI 2), .int (nI sy), .ref rTh, .int (nI ez), .int la, .int ma, .long x, .ref rTe, .int (bz md), .ref rPu, .ref rWh, .ref rGi, .ref rDr, .ref rTr, .ref rKn, .ref rRo, .int (nI rws), .int (nI sz), .ref rTx])), (rKn, .inl (X.1.2.1, 36, .inl (eb kn)))]
            refine r_if_ne (tgt := 38) C dX11_isSingle_31 (by decide) (fun h31 => ?_) (fun h31 => ?_)
            · have h31 : kn c = none ∧ mayP n N kn c uv := bz_n0.mp h31
              refine r_iconst C dX11_isSingle_38 (v := nI 0) (by decide) ?_
              refine r_top (y := bz (al ∧ (uv = v ∨ ¬ (kn c = none ∧ mayP n N kn c uv)))) (bz_f (fun w => w.2.elim h21 (fun q => q h31))).symm ?_
              refine r_istore_n C dX11_isSingle_39 rfl (by decide) [1, 2, 3, 0, 4] (lv' := [(0, .ref rM), (1, .int (nI c)), (2, .int (nI v)), (3, .int (bz (al ∧ (uv = v ∨ ¬ (kn c = none ∧ mayP n N kn c uv))))), (4, .int (nI uv))]) rfl ?_
              refine r_iinc C dX11_isSingle_40 4 rfl (v := nI (uv + 1)) (nI_add _ _) (by decide) [1, 2, 3, 4, 0] (lv' := [(0, .ref rM), (1, .int (nI c)), (2, .int (nI v)), (3, .int (bz (al ∧ (uv = v ∨ ¬ (kn c = none ∧ mayP n N kn c uv))))), (4, .int (nI (uv + 1)))]) rfl ?_
              refine r_goto (tgt := 5) C dX11_isSingle_43 (by decide) ?_
              exact ih5 (uv + 1) (al ∧ (uv = v ∨ ¬ (kn c = none ∧ mayP n N kn c uv))) (by omega) (by omega) (and_S hal)
            · have h31 : ¬ (kn c = none ∧ mayP n N kn c uv) := bz_0.mp h31
              refine r_iconst C dX11_isSingle_34 (v := nI 1) (by decide) ?_
              refine r_goto (tgt := 39) C dX11_isSingle_35 (by decide) ?_
              refine r_top (y := bz (al ∧ (uv = v ∨ ¬ (kn c = none ∧ mayP n N kn c uv)))) (bz_t ⟨h15, Or.inr h31⟩).symm ?_
              refine r_istore_n C dX11_isSingle_39 rfl (by decide) [1, 2, 3, 0, 4] (lv' := [(0, .ref rM), (1, .int (nI c)), (2, .int (nI v)), (3, .int (bz (al ∧ (uv = v ∨ ¬ (kn c = none ∧ mayP n N kn c uv))))), (4, .int (nI uv))]) rfl ?_
              refine r_iinc C dX11_isSingle_40 4 rfl (v := nI (uv + 1)) (nI_add _ _) (by decide) [1, 2, 3, 4, 0] (lv' := [(0, .ref rM), (1, .int (nI c)), (2, .int (nI v)), (3, .int (bz (al ∧ (uv = v ∨ ¬ (kn c = none ∧ mayP n N kn c uv))))), (4, .int (nI (uv + 1)))]) rfl ?_
              refine r_goto (tgt := 5) C dX11_isSingle_43 (by decide) ?_
              exact ih5 (uv + 1) (al ∧ (uv = v ∨ ¬ (kn c = none ∧ mayP n N kn c uv))) (by omega) (by omega) (and_S hal)
  exact L5 ((n - 0) + 1) 0 True (Nat.lt_succ_self _) (Nat.zero_le _) (⟨fun _ d q => absurd q (Nat.not_lt_zero d), fun _ => trivial⟩)
