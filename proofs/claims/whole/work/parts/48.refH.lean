theorem rg_lo {kk : Int32} {M : Nat} (hM : M ≤ 2147483648) (h : kk < 0) : ¬ ∃ j, j < M ∧ kk = nI j := fun ⟨j, q, e⟩ => absurd h (by rw [e]; exact nI_pos (by omega))
theorem rg_hi {kk : Int32} {m : Nat} (hm : m + 1 < 2147483648) (h : ¬ kk ≤ nI m) : ¬ ∃ j, j < m + 1 ∧ kk = nI j := fun ⟨j, q, e⟩ => h (by rw [e]; exact (nI_leI (by omega) (by omega)).mpr (by omega))
theorem rg_in {kk : Int32} {m : Nat} (hm : m + 1 < 2147483648) (h1 : ¬ kk < 0) (h2 : kk ≤ nI m) : ∃ j, j < m + 1 ∧ kk = nI j := by
  have h3 : (0 : Int32) ≤ kk := Int32.not_lt.mp h1
  rw [Int32.le_iff_toInt_le] at h2 h3
  rw [nI_toInt (by omega)] at h2
  rw [show (0 : Int32).toInt = 0 from rfl] at h3
  refine ⟨kk.toInt.toNat, by omega, ?_⟩
  apply Int32.toInt_inj.mp
  rw [nI_toInt (by omega)]
  omega
theorem cn_lt {P Q : Nat → Prop} (h : ∀ c, P c → Q c) : ∀ {N : Nat}, (∃ c, c < N ∧ Q c ∧ ¬ P c) → cn P N < cn Q N
  | 0, ⟨c, q, _⟩ => absurd q (Nat.not_lt_zero c)
  | N + 1, ⟨c, q, hq, hp⟩ => by
    have hle : ∀ k, cn P k ≤ cn Q k := fun k => by
      induction k with
      | zero => exact Nat.le_refl 0
      | succ k ih =>
        show cn P k + dI (P k) ≤ cn Q k + dI (Q k)
        have : dI (P k) ≤ dI (Q k) := by
          by_cases w : P k
          · rw [dI_t w, dI_t (h k w)]; exact Nat.le_refl 1
          · rw [dI_f w]; exact Nat.zero_le _
        omega
    show cn P N + dI (P N) < cn Q N + dI (Q N)
    by_cases e : c = N
    · subst e
      rw [dI_f hp, dI_t hq]
      have := hle c
      omega
    · have h1 := cn_lt h ⟨c, (show c < N by omega), hq, hp⟩
      have : dI (P N) ≤ dI (Q N) := by
        by_cases w : P N
        · rw [dI_t w, dI_t (h N w)]; exact Nat.le_refl 1
        · rw [dI_f w]; exact Nat.zero_le _
      omega
theorem fil_wo {N s : Nat} {lf : Nat → Nat} {g : Nat → Option Nat} : fil N (woF lf s g) < fil N g ↔ soP N s lf g := by
  constructor
  · intro h
    refine Classical.byContradiction (fun w => ?_)
    rw [fil_ext (wo_no w)] at h
    omega
  · rintro ⟨c, hc, e, h0⟩
    refine cn_lt (fun d hd => ?_) ⟨c, hc, h0, fun w => w (by unfold woF; rw [if_pos e])⟩
    intro w
    exact hd (by unfold woF; rw [w]; exact ite_self none)
theorem rdF_lt {n N sz : Nat} {tx : Nat → Nat} (hn : (n = 4 ∧ N = 16) ∨ (n = 6 ∧ N = 36)) (hsz : sz ≤ 60) {v : Nat} (h : (rdF n N tx sz N 0 (fun _ => none)).1 = some v) : v < 61 := by
  have key : ∀ (k c : Nat) (b : Nat → Option Nat), c + k = N → (rdF n N tx sz k c b).1 = some v → v ≤ N := by
    intro k
    induction k with
    | zero =>
      intro c b hk h
      have h : (if N < sz then some N else none) = some v := h
      by_cases q : N < sz
      · rw [if_pos q] at h; cases h; exact Nat.le_refl _
      · rw [if_neg q] at h; cases h
    | succ k ih =>
      intro c b hk h
      by_cases q : sz ≤ c
      · rw [rdF_len q] at h; cases h; omega
      · cases e : rdB n N b c (tx c) with
        | none => rw [rdF_no q e] at h; cases h; omega
        | some b2 => rw [rdF_s q e] at h; exact ih (c + 1) b2 (by omega) h
  have := key N 0 _ (by omega) h
  omega
theorem fX11_symmetry_54 : Cond.fieldLink RX11 54 (TX11 0).1 (TX11 0).2.1 (TX11 0).2.2.1 ∈ wsX11_symmetry := List.mem_of_getElem? (i := 1) rfl
theorem iX11_symmetry_X11 : ∀ w ∈ wsX110, w ∈ wsX11_symmetry := by decide +kernel
theorem fX11_symmetry_61 : Cond.fieldLink RX11 61 (TX11 4).1 (TX11 4).2.1 (TX11 4).2.2.1 ∈ wsX11_symmetry := List.mem_of_getElem? (i := 2) rfl
set_option maxHeartbeats 4000000 in
set_option maxRecDepth 100000 in
theorem c_X11_symmetry {g : ww_G} {l : Launch} {rM : Nat} {rTh : Nat} {rTe : Nat} {rPu : Nat} {rWh : Nat} {rGi : Nat} {rDr : Nat} {rTr : Nat} {rKn : Nat} {rRo : Nat} {rTx : Nat} {tn : Nat} {n : Nat} {N : Nat} {sy : Nat} {ez : Nat} {la : Int32} {ma : Int32} {x : Int64} {md : Prop} {rws : Nat} {sz : Nat} {kk : Int32}  : CT g l yX11_symmetry wsX11_symmetry (ww_rm 1) [.ref rM, .int kk] ([(rM, .inr (12, [.int (nI tn), .int (nI n), .int (nI (n / 2)), .int (nI 2), .int (nI sy), .ref rTh, .int (nI ez), .int la, .int ma, .long x, .ref rTe, .int (bz md), .ref rPu, .ref rWh, .ref rGi, .ref rDr, .ref rTr, .ref rKn, .ref rRo, .int (nI rws), .int (nI sz), .ref rTx]))]) (S := Nat) (fun vv9 u => vv9 = some (.int (bz (∃ j, j < 4 ∧ kk = nI j))) ∧ (∀ j, j < 4 → kk = nI j → u = j) ∧ (¬ (∃ j, j < 4 ∧ kk = nI j) → u = sy)) (fun u => [(rM, .inr (12, [.int (nI 0), .int (nI n), .int (nI (n / 2)), .int (nI 2), .int (nI u), .ref rTh, .int (nI ez), .int la, .int ma, .long x, .ref rTe, .int (bz md), .ref rPu, .ref rWh, .ref rGi, .ref rDr, .ref rTr, .ref rKn, .ref rRo, .int (nI rws), .int (nI sz), .ref rTx]))]) := by
  refine CT.of cX11_symmetry 2 (some .boolean) RX11 (by decide +kernel) rfl rfl (Nat.le_of_ble_eq_true rfl) ?_
  intro X hg hl C hret
  subst hg; subst hl
  show RW X 0 0 0 [(0, .ref rM), (1, .int kk)] [] [(rM, .inr (12, [.int (nI tn), .int (nI n), .int (nI (n / 2)), .int (nI 2), .int (nI sy), .ref rTh, .int (nI ez), .int la, .int ma, .long x, .ref rTe, .int (bz md), .ref rPu, .ref rWh, .ref rGi, .ref rDr, .ref rTr, .ref rKn, .ref rRo, .int (nI rws), .int (nI sz), .ref rTx]))]
  refine r_aload_n C dX11_symmetry_0 0 rfl rfl ?_
  refine r_iconst C dX11_symmetry_1 (v := nI 0) (by decide) ?_
  refine r_put C dX11_symmetry_2 iX11_symmetry_X11 tyX11 tyX11_ok nmX11 0 fX11_symmetry_54 0 rfl rfl (by decide) rfl rfl rfl rfl (Nat.le_of_ble_eq_true rfl) (ws' := [(rM, .inr (12, [.int (nI 0), .int (nI n), .int (nI (n / 2)), .int (nI 2), .int (nI sy), .ref rTh, .int (nI ez), .int la, .int ma, .long x, .ref rTe, .int (bz md), .ref rPu, .ref rWh, .ref rGi, .ref rDr, .ref rTr, .ref rKn, .ref rRo, .int (nI rws), .int (nI sz), .ref rTx]))]) rfl ?_
  refine r_iload_n C dX11_symmetry_5 1 rfl rfl ?_
  refine r_if_lt (tgt := 14) C dX11_symmetry_6 (by decide) (fun h6 => ?_) (fun h6 => ?_)
  · refine r_iconst C dX11_symmetry_14 (v := nI 0) (by decide) ?_
    refine r_top (y := bz (∃ j, j < 4 ∧ kk = nI j)) ((bz_f (rg_lo (M := 4) (by omega) h6)).symm) ?_
    exact hret _ _ _ (sy) ⟨rfl, fun j q e => absurd ⟨j, q, e⟩ (rg_lo (M := 4) (by omega) h6), fun _ => rfl⟩ (Or.inr ⟨_, rfl, dX11_symmetry_15, Or.inr ⟨rfl, bz_01 _⟩⟩)
  · refine r_iload_n C dX11_symmetry_9 1 rfl rfl ?_
    refine r_iconst C dX11_symmetry_10 (v := nI 3) (by decide) ?_
    refine r_icmp_le (tgt := 16) C dX11_symmetry_11 (by decide) (fun h11 => ?_) (fun h11 => ?_)
    · obtain ⟨w, hw, rfl⟩ := nI_of2 (M := nI 3) (n := 3) (by decide) h6 h11
      refine r_aload_n C dX11_symmetry_16 0 rfl rfl ?_
      refine r_iload_n C dX11_symmetry_17 1 rfl rfl ?_
      refine r_put C dX11_symmetry_18 iX11_symmetry_X11 tyX11 tyX11_ok nmX11 4 fX11_symmetry_61 0 rfl rfl (by decide) rfl rfl rfl rfl (Nat.le_of_ble_eq_true rfl) (ws' := [(rM, .inr (12, [.int (nI 0), .int (nI n), .int (nI (n / 2)), .int (nI 2), .int (nI w), .ref rTh, .int (nI ez), .int la, .int ma, .long x, .ref rTe, .int (bz md), .ref rPu, .ref rWh, .ref rGi, .ref rDr, .ref rTr, .ref rKn, .ref rRo, .int (nI rws), .int (nI sz), .ref rTx]))]) rfl ?_
      refine r_iconst C dX11_symmetry_21 (v := nI 1) (by decide) ?_
      refine r_top (y := bz (∃ j, j < 4 ∧ (nI w) = nI j)) ((bz_t ⟨w, by omega, rfl⟩).symm) ?_
      exact hret _ _ _ (w) ⟨rfl, fun j q e => (nI_eq (by omega) (by omega)).mp e, fun q => absurd ⟨w, by omega, rfl⟩ q⟩ (Or.inr ⟨_, rfl, dX11_symmetry_22, Or.inr ⟨rfl, bz_01 _⟩⟩)
    · refine r_iconst C dX11_symmetry_14 (v := nI 0) (by decide) ?_
      refine r_top (y := bz (∃ j, j < 4 ∧ kk = nI j)) ((bz_f (rg_hi (m := 3) (by omega) h11)).symm) ?_
      exact hret _ _ _ (sy) ⟨rfl, fun j q e => absurd ⟨j, q, e⟩ (rg_hi (m := 3) (by omega) h11), fun _ => rfl⟩ (Or.inr ⟨_, rfl, dX11_symmetry_15, Or.inr ⟨rfl, bz_01 _⟩⟩)
theorem fX11_theme_7 : Cond.fieldLink RX11 7 (TX11 5).1 (TX11 5).2.1 (TX11 5).2.2.1 ∈ wsX11_theme := List.mem_of_getElem? (i := 1) rfl
theorem iX11_theme_X11 : ∀ w ∈ wsX110, w ∈ wsX11_theme := by decide +kernel
set_option maxHeartbeats 4000000 in
set_option maxRecDepth 100000 in
theorem c_X11_theme {g : ww_G} {l : Launch} {rM : Nat} {rTh : Nat} {rTe : Nat} {rPu : Nat} {rWh : Nat} {rGi : Nat} {rDr : Nat} {rTr : Nat} {rKn : Nat} {rRo : Nat} {rTx : Nat} {tn : Nat} {n : Nat} {N : Nat} {sy : Nat} {ez : Nat} {la : Int32} {ma : Int32} {x : Int64} {md : Prop} {rws : Nat} {sz : Nat} {th : Nat → Nat} {cc : Int32} {ww : Int32} (hn : (n = 4 ∧ N = 16) ∨ (n = 6 ∧ N = 36)) : CT g l yX11_theme wsX11_theme (ww_rm 3) [.ref rM, .int cc, .int ww] ([(rM, .inr (12, [.int (nI tn), .int (nI n), .int (nI (n / 2)), .int (nI 2), .int (nI sy), .ref rTh, .int (nI ez), .int la, .int ma, .long x, .ref rTe, .int (bz md), .ref rPu, .ref rWh, .ref rGi, .ref rDr, .ref rTr, .ref rKn, .ref rRo, .int (nI rws), .int (nI sz), .ref rTx])), (rTh, .inl (g.2.1, 36, .inl (nO th)))]) (S := Nat × (Nat → Nat)) (fun vv9 u => vv9 = none ∧ (¬ (∃ j, j < N ∧ cc = nI j) → u.1 = 1 ∧ u.2 = th) ∧ ((∃ j, j < N ∧ cc = nI j) → ¬ (∃ k, k < 3 ∧ ww = nI k) → u.1 = 2 ∧ u.2 = th) ∧ (∀ j k, j < N → k < 3 → cc = nI j → ww = nI k → u.1 = 0 ∧ u.2 = uO th j k)) (fun u => [(rM, .inr (12, [.int (nI u.1), .int (nI n), .int (nI (n / 2)), .int (nI 2), .int (nI sy), .ref rTh, .int (nI ez), .int la, .int ma, .long x, .ref rTe, .int (bz md), .ref rPu, .ref rWh, .ref rGi, .ref rDr, .ref rTr, .ref rKn, .ref rRo, .int (nI rws), .int (nI sz), .ref rTx])), (rTh, .inl (g.2.1, 36, .inl (nO u.2)))]) := by
  refine CT.of cX11_theme 3 none RX11 (by decide +kernel) rfl rfl (Nat.le_of_ble_eq_true rfl) ?_
  intro X hg hl C hret
  subst hg; subst hl
  show RW X 0 0 0 [(0, .ref rM), (1, .int cc), (2, .int ww)] [] [(rM, .inr (12, [.int (nI tn), .int (nI n), .int (nI (n / 2)), .int (nI 2), .int (nI sy), .ref rTh, .int (nI ez), .int la, .int ma, .long x, .ref rTe, .int (bz md), .ref rPu, .ref rWh, .ref rGi, .ref rDr, .ref rTr, .ref rKn, .ref rRo, .int (nI rws), .int (nI sz), .ref rTx])), (rTh, .inl (X.1.2.1, 36, .inl (nO th)))]
  refine r_aload_n C dX11_theme_0 0 rfl rfl ?_
  refine r_iconst C dX11_theme_1 (v := nI 1) (by decide) ?_
  refine r_aload_n C dX11_theme_2 0 rfl rfl ?_
  refine r_iload_n C dX11_theme_3 1 rfl rfl ?_
  refine r_callV0 (n := 1) (ws' := fun (u : Unit) => [(rM, .inr (12, [.int (nI tn), .int (nI n), .int (nI (n / 2)), .int (nI 2), .int (nI sy), .ref rTh, .int (nI ez), .int la, .int ma, .long x, .ref rTe, .int (bz md), .ref rPu, .ref rWh, .ref rGi, .ref rDr, .ref rTr, .ref rKn, .ref rRo, .int (nI rws), .int (nI sz), .ref rTx])), (rTh, .inl (X.1.2.1, 36, .inl (nO th)))]) C dX11_theme_4 (c_X11_isCell (g := X.1) (l := X.2.2.1) (rM := rM) (rTh := rTh) (rTe := rTe) (rPu := rPu) (rWh := rWh) (rGi := rGi) (rDr := rDr) (rTr := rTr) (rKn := rKn) (rRo := rRo) (rTx := rTx) (tn := tn) (n := n) (N := N) (sy := sy) (ez := ez) (la := la) (ma := ma) (x := x) (md := md) (rws := rws) (sz := sz) (c := cc) (hn := (by first | assumption | omega))) gX11_theme_X11_isCell rfl (by decide +kernel) rfl ⟨Nat.le_of_ble_eq_true rfl, Nat.le_of_ble_eq_true rfl⟩ ⟨rfl, rfl⟩ ⟨Nat.zero_le _, Nat.zero_le _⟩ (rest := [.int (nI 1), .ref rM]) rfl (Nat.le_of_ble_eq_true rfl) 0 rfl rfl [0] (by decide) rfl (fun u => Eq.trans (b := [rM]) rfl rfl) (fun u => rfl) (fun v u hp => ?_)
  obtain rfl := hp
  show RW X 0 0 7 [(0, .ref rM), (1, .int cc), (2, .int ww)] [.int (bz (∃ j, j < N ∧ cc = nI j)), .int (nI 1), .ref rM] [(rM, .inr (12, [.int (nI tn), .int (nI n), .int (nI (n / 2)), .int (nI 2), .int (nI sy), .ref rTh, .int (nI ez), .int la, .int ma, .long x, .ref rTe, .int (bz md), .ref rPu, .ref rWh, .ref rGi, .ref rDr, .ref rTr, .ref rKn, .ref rRo, .int (nI rws), .int (nI sz), .ref rTx])), (rTh, .inl (X.1.2.1, 36, .inl (nO th)))]
  refine r_if_ne (tgt := 14) C dX11_theme_7 (by decide) (fun h7 => ?_) (fun h7 => ?_)
  · have h7 : ∃ j, j < N ∧ cc = nI j := bz_n0.mp h7
    refine r_iconst C dX11_theme_14 (v := nI 0) (by decide) ?_
    refine r_top (y := bz (¬ (∃ j, j < N ∧ cc = nI j))) (bz_f (fun w => w h7)).symm ?_
    refine r_callV0 (n := 2) (ws' := fun (u : Unit) => [(rM, .inr (12, [.int (nI (thrF 1 (¬ (∃ j, j < N ∧ cc = nI j)))), .int (nI n), .int (nI (n / 2)), .int (nI 2), .int (nI sy), .ref rTh, .int (nI ez), .int la, .int ma, .long x, .ref rTe, .int (bz md), .ref rPu, .ref rWh, .ref rGi, .ref rDr, .ref rTr, .ref rKn, .ref rRo, .int (nI rws), .int (nI sz), .ref rTx])), (rTh, .inl (X.1.2.1, 36, .inl (nO th)))]) C dX11_theme_15 (c_X11_throwsIf (g := X.1) (l := X.2.2.1) (rM := rM) (rTh := rTh) (rTe := rTe) (rPu := rPu) (rWh := rWh) (rGi := rGi) (rDr := rDr) (rTr := rTr) (rKn := rKn) (rRo := rRo) (rTx := rTx) (tn := tn) (n := n) (N := N) (sy := sy) (ez := ez) (la := la) (ma := ma) (x := x) (md := md) (rws := rws) (sz := sz) (k := 1) (E := ¬ (∃ j, j < N ∧ cc = nI j)) ) gX11_theme_X11_throwsIf rfl (by decide +kernel) rfl ⟨Nat.le_of_ble_eq_true rfl, Nat.le_of_ble_eq_true rfl⟩ ⟨rfl, rfl⟩ ⟨Nat.zero_le _, Nat.zero_le _⟩ (rest := []) rfl (Nat.le_of_ble_eq_true rfl) 0 rfl rfl [0] (by decide) rfl (fun u => Eq.trans (b := [rM]) rfl rfl) (fun u => rfl) (fun v u hp => ?_)
    obtain rfl := hp
    show RW X 0 0 18 [(0, .ref rM), (1, .int cc), (2, .int ww)] [.int (bz (¬ (∃ j, j < N ∧ cc = nI j)))] [(rM, .inr (12, [.int (nI (thrF 1 (¬ (∃ j, j < N ∧ cc = nI j)))), .int (nI n), .int (nI (n / 2)), .int (nI 2), .int (nI sy), .ref rTh, .int (nI ez), .int la, .int ma, .long x, .ref rTe, .int (bz md), .ref rPu, .ref rWh, .ref rGi, .ref rDr, .ref rTr, .ref rKn, .ref rRo, .int (nI rws), .int (nI sz), .ref rTx])), (rTh, .inl (X.1.2.1, 36, .inl (nO th)))]
    refine r_if_ne (tgt := 43) C dX11_theme_18 (by decide) (fun h18 => ?_) (fun h18 => ?_)
    · have h18 : (¬ (∃ j, j < N ∧ cc = nI j)) := bz_n0.mp h18
      exact absurd h7 h18
    · have h18 : ¬ ((¬ (∃ j, j < N ∧ cc = nI j))) := bz_0.mp h18
      rw [thrF_f h18]
      refine r_aload_n C dX11_theme_21 0 rfl rfl ?_
      refine r_iconst C dX11_theme_22 (v := nI 2) (by decide) ?_
      refine r_iload_n C dX11_theme_23 2 rfl rfl ?_
      refine r_if_lt (tgt := 32) C dX11_theme_24 (by decide) (fun h24 => ?_) (fun h24 => ?_)
      · refine r_iconst C dX11_theme_32 (v := nI 1) (by decide) ?_
        refine r_goto (tgt := 37) C dX11_theme_33 (by decide) ?_
        refine r_top (y := bz (¬ (∃ k, k < 3 ∧ ww = nI k))) (bz_t (rg_lo (M := 3) (by omega) h24)).symm ?_
        refine r_callV0 (n := 2) (ws' := fun (u : Unit) => [(rM, .inr (12, [.int (nI (thrF 2 (¬ (∃ k, k < 3 ∧ ww = nI k)))), .int (nI n), .int (nI (n / 2)), .int (nI 2), .int (nI sy), .ref rTh, .int (nI ez), .int la, .int ma, .long x, .ref rTe, .int (bz md), .ref rPu, .ref rWh, .ref rGi, .ref rDr, .ref rTr, .ref rKn, .ref rRo, .int (nI rws), .int (nI sz), .ref rTx])), (rTh, .inl (X.1.2.1, 36, .inl (nO th)))]) C dX11_theme_37 (c_X11_throwsIf (g := X.1) (l := X.2.2.1) (rM := rM) (rTh := rTh) (rTe := rTe) (rPu := rPu) (rWh := rWh) (rGi := rGi) (rDr := rDr) (rTr := rTr) (rKn := rKn) (rRo := rRo) (rTx := rTx) (tn := 0) (n := n) (N := N) (sy := sy) (ez := ez) (la := la) (ma := ma) (x := x) (md := md) (rws := rws) (sz := sz) (k := 2) (E := ¬ (∃ k, k < 3 ∧ ww = nI k)) ) gX11_theme_X11_throwsIf rfl (by decide +kernel) rfl ⟨Nat.le_of_ble_eq_true rfl, Nat.le_of_ble_eq_true rfl⟩ ⟨rfl, rfl⟩ ⟨Nat.zero_le _, Nat.zero_le _⟩ (rest := []) rfl (Nat.le_of_ble_eq_true rfl) 0 rfl rfl [0] (by decide) rfl (fun u => Eq.trans (b := [rM]) rfl rfl) (fun u => rfl) (fun v u hp => ?_)
        obtain rfl := hp
        show RW X 0 0 40 [(0, .ref rM), (1, .int cc), (2, .int ww)] [.int (bz (¬ (∃ k, k < 3 ∧ ww = nI k)))] [(rM, .inr (12, [.int (nI (thrF 2 (¬ (∃ k, k < 3 ∧ ww = nI k)))), .int (nI n), .int (nI (n / 2)), .int (nI 2), .int (nI sy), .ref rTh, .int (nI ez), .int la, .int ma, .long x, .ref rTe, .int (bz md), .ref rPu, .ref rWh, .ref rGi, .ref rDr, .ref rTr, .ref rKn, .ref rRo, .int (nI rws), .int (nI sz), .ref rTx])), (rTh, .inl (X.1.2.1, 36, .inl (nO th)))]
        refine r_if_eq (tgt := 44) C dX11_theme_40 (by decide) (fun h40 => ?_) (fun h40 => ?_)
        · have h40 : ¬ ((¬ (∃ k, k < 3 ∧ ww = nI k))) := bz_0.mp h40
          exact absurd (rg_lo (M := 3) (by omega) h24) h40
        · have h40 : (¬ (∃ k, k < 3 ∧ ww = nI k)) := bz_n0.mp h40
          rw [thrF_t h40]
          exact hret _ _ _ (2, th) ⟨rfl, fun w => absurd h7 w, fun _ _ => ⟨rfl, rfl⟩, fun j k _ q _ e => absurd ⟨k, q, e⟩ h40⟩ (Or.inl ⟨rfl, rfl, dX11_theme_43⟩)
      · refine r_iload_n C dX11_theme_27 2 rfl rfl ?_
        refine r_iconst C dX11_theme_28 (v := nI 2) (by decide) ?_
        refine r_icmp_le (tgt := 36) C dX11_theme_29 (by decide) (fun h29 => ?_) (fun h29 => ?_)
        · refine r_iconst C dX11_theme_36 (v := nI 0) (by decide) ?_
          refine r_top (y := bz (¬ (∃ k, k < 3 ∧ ww = nI k))) (bz_f (fun w => w (rg_in (m := 2) (by omega) h24 h29))).symm ?_
          refine r_callV0 (n := 2) (ws' := fun (u : Unit) => [(rM, .inr (12, [.int (nI (thrF 2 (¬ (∃ k, k < 3 ∧ ww = nI k)))), .int (nI n), .int (nI (n / 2)), .int (nI 2), .int (nI sy), .ref rTh, .int (nI ez), .int la, .int ma, .long x, .ref rTe, .int (bz md), .ref rPu, .ref rWh, .ref rGi, .ref rDr, .ref rTr, .ref rKn, .ref rRo, .int (nI rws), .int (nI sz), .ref rTx])), (rTh, .inl (X.1.2.1, 36, .inl (nO th)))]) C dX11_theme_37 (c_X11_throwsIf (g := X.1) (l := X.2.2.1) (rM := rM) (rTh := rTh) (rTe := rTe) (rPu := rPu) (rWh := rWh) (rGi := rGi) (rDr := rDr) (rTr := rTr) (rKn := rKn) (rRo := rRo) (rTx := rTx) (tn := 0) (n := n) (N := N) (sy := sy) (ez := ez) (la := la) (ma := ma) (x := x) (md := md) (rws := rws) (sz := sz) (k := 2) (E := ¬ (∃ k, k < 3 ∧ ww = nI k)) ) gX11_theme_X11_throwsIf rfl (by decide +kernel) rfl ⟨Nat.le_of_ble_eq_true rfl, Nat.le_of_ble_eq_true rfl⟩ ⟨rfl, rfl⟩ ⟨Nat.zero_le _, Nat.zero_le _⟩ (rest := []) rfl (Nat.le_of_ble_eq_true rfl) 0 rfl rfl [0] (by decide) rfl (fun u => Eq.trans (b := [rM]) rfl rfl) (fun u => rfl) (fun v u hp => ?_)
          obtain rfl := hp
          show RW X 0 0 40 [(0, .ref rM), (1, .int cc), (2, .int ww)] [.int (bz (¬ (∃ k, k < 3 ∧ ww = nI k)))] [(rM, .inr (12, [.int (nI (thrF 2 (¬ (∃ k, k < 3 ∧ ww = nI k)))), .int (nI n), .int (nI (n / 2)), .int (nI 2), .int (nI sy), .ref rTh, .int (nI ez), .int la, .int ma, .long x, .ref rTe, .int (bz md), .ref rPu, .ref rWh, .ref rGi, .ref rDr, .ref rTr, .ref rKn, .ref rRo, .int (nI rws), .int (nI sz), .ref rTx])), (rTh, .inl (X.1.2.1, 36, .inl (nO th)))]
          refine r_if_eq (tgt := 44) C dX11_theme_40 (by decide) (fun h40 => ?_) (fun h40 => ?_)
          · have h40 : ¬ ((¬ (∃ k, k < 3 ∧ ww = nI k))) := bz_0.mp h40
            rw [thrF_f h40]
            obtain ⟨j, hj, rfl⟩ := h7
            obtain ⟨k, hk, rfl⟩ := rg_in (m := 2) (by omega) h24 h29
            refine r_aload_n C dX11_theme_44 0 rfl rfl ?_
            refine r_get C dX11_theme_45 iX11_theme_X11 5 fX11_theme_7 0 rfl rfl (by decide) rfl ?_
            refine r_iload_n C dX11_theme_48 1 rfl rfl ?_
            refine r_iload_n C dX11_theme_49 2 rfl rfl ?_
            refine r_iast C dX11_theme_50 1 rfl (by omega) (by omega) (ws' := [(rM, .inr (12, [.int (nI 0), .int (nI n), .int (nI (n / 2)), .int (nI 2), .int (nI sy), .ref rTh, .int (nI ez), .int la, .int ma, .long x, .ref rTe, .int (bz md), .ref rPu, .ref rWh, .ref rGi, .ref rDr, .ref rTr, .ref rKn, .ref rRo, .int (nI rws), .int (nI sz), .ref rTx])), (rTh, .inl (X.1.2.1, 36, .inl (upd (nO th) j (nI k))))]) rfl ?_
            rw [nO_u]
            show RW X 0 0 51 [(0, .ref rM), (1, .int (nI j)), (2, .int (nI k))] [] [(rM, .inr (12, [.int (nI 0), .int (nI n), .int (nI (n / 2)), .int (nI 2), .int (nI sy), .ref rTh, .int (nI ez), .int la, .int ma, .long x, .ref rTe, .int (bz md), .ref rPu, .ref rWh, .ref rGi, .ref rDr, .ref rTr, .ref rKn, .ref rRo, .int (nI rws), .int (nI sz), .ref rTx])), (rTh, .inl (X.1.2.1, 36, .inl (nO (uO th j k))))]
            exact hret _ _ _ (0, uO th j k) ⟨rfl, fun w => absurd ⟨j, hj, rfl⟩ w, fun _ w => absurd ⟨k, hk, rfl⟩ w, fun j2 k2 q1 q2 e1 e2 => by
                    have a1 : j = j2 := (nI_eq (by omega) (by omega)).mp e1
                    have a2 : k = k2 := (nI_eq (by omega) (by omega)).mp e2
                    subst a1; subst a2; exact ⟨rfl, rfl⟩⟩ (Or.inl ⟨rfl, rfl, dX11_theme_51⟩)
          · have h40 : (¬ (∃ k, k < 3 ∧ ww = nI k)) := bz_n0.mp h40
            exact absurd (rg_in (m := 2) (by omega) h24 h29) h40
        · refine r_iconst C dX11_theme_32 (v := nI 1) (by decide) ?_
          refine r_goto (tgt := 37) C dX11_theme_33 (by decide) ?_
          refine r_top (y := bz (¬ (∃ k, k < 3 ∧ ww = nI k))) (bz_t (rg_hi (m := 2) (by omega) h29)).symm ?_
          refine r_callV0 (n := 2) (ws' := fun (u : Unit) => [(rM, .inr (12, [.int (nI (thrF 2 (¬ (∃ k, k < 3 ∧ ww = nI k)))), .int (nI n), .int (nI (n / 2)), .int (nI 2), .int (nI sy), .ref rTh, .int (nI ez), .int la, .int ma, .long x, .ref rTe, .int (bz md), .ref rPu, .ref rWh, .ref rGi, .ref rDr, .ref rTr, .ref rKn, .ref rRo, .int (nI rws), .int (nI sz), .ref rTx])), (rTh, .inl (X.1.2.1, 36, .inl (nO th)))]) C dX11_theme_37 (c_X11_throwsIf (g := X.1) (l := X.2.2.1) (rM := rM) (rTh := rTh) (rTe := rTe) (rPu := rPu) (rWh := rWh) (rGi := rGi) (rDr := rDr) (rTr := rTr) (rKn := rKn) (rRo := rRo) (rTx := rTx) (tn := 0) (n := n) (N := N) (sy := sy) (ez := ez) (la := la) (ma := ma) (x := x) (md := md) (rws := rws) (sz := sz) (k := 2) (E := ¬ (∃ k, k < 3 ∧ ww = nI k)) ) gX11_theme_X11_throwsIf rfl (by decide +kernel) rfl ⟨Nat.le_of_ble_eq_true rfl, Nat.le_of_ble_eq_true rfl⟩ ⟨rfl, rfl⟩ ⟨Nat.zero_le _, Nat.zero_le _⟩ (rest := []) rfl (Nat.le_of_ble_eq_true rfl) 0 rfl rfl [0] (by decide) rfl (fun u => Eq.trans (b := [rM]) rfl rfl) (fun u => rfl) (fun v u hp => ?_)
          obtain rfl := hp
          show RW X 0 0 40 [(0, .ref rM), (1, .int cc), (2, .int ww)] [.int (bz (¬ (∃ k, k < 3 ∧ ww = nI k)))] [(rM, .inr (12, [.int (nI (thrF 2 (¬ (∃ k, k < 3 ∧ ww = nI k)))), .int (nI n), .int (nI (n / 2)), .int (nI 2), .int (nI sy), .ref rTh, .int (nI ez), .int la, .int ma, .long x, .ref rTe, .int (bz md), .ref rPu, .ref rWh, .ref rGi, .ref rDr, .ref rTr, .ref rKn, .ref rRo, .int (nI rws), .int (nI sz), .ref rTx])), (rTh, .inl (X.1.2.1, 36, .inl (nO th)))]
          refine r_if_eq (tgt := 44) C dX11_theme_40 (by decide) (fun h40 => ?_) (fun h40 => ?_)
          · have h40 : ¬ ((¬ (∃ k, k < 3 ∧ ww = nI k))) := bz_0.mp h40
            exact absurd (rg_hi (m := 2) (by omega) h29) h40
          · have h40 : (¬ (∃ k, k < 3 ∧ ww = nI k)) := bz_n0.mp h40
            rw [thrF_t h40]
            exact hret _ _ _ (2, th) ⟨rfl, fun w => absurd h7 w, fun _ _ => ⟨rfl, rfl⟩, fun j k _ q _ e => absurd ⟨k, q, e⟩ h40⟩ (Or.inl ⟨rfl, rfl, dX11_theme_43⟩)
  · have h7 : ¬ (∃ j, j < N ∧ cc = nI j) := bz_0.mp h7
    refine r_iconst C dX11_theme_10 (v := nI 1) (by decide) ?_
    refine r_goto (tgt := 15) C dX11_theme_11 (by decide) ?_
    refine r_top (y := bz (¬ (∃ j, j < N ∧ cc = nI j))) (bz_t h7).symm ?_
    refine r_callV0 (n := 2) (ws' := fun (u : Unit) => [(rM, .inr (12, [.int (nI (thrF 1 (¬ (∃ j, j < N ∧ cc = nI j)))), .int (nI n), .int (nI (n / 2)), .int (nI 2), .int (nI sy), .ref rTh, .int (nI ez), .int la, .int ma, .long x, .ref rTe, .int (bz md), .ref rPu, .ref rWh, .ref rGi, .ref rDr, .ref rTr, .ref rKn, .ref rRo, .int (nI rws), .int (nI sz), .ref rTx])), (rTh, .inl (X.1.2.1, 36, .inl (nO th)))]) C dX11_theme_15 (c_X11_throwsIf (g := X.1) (l := X.2.2.1) (rM := rM) (rTh := rTh) (rTe := rTe) (rPu := rPu) (rWh := rWh) (rGi := rGi) (rDr := rDr) (rTr := rTr) (rKn := rKn) (rRo := rRo) (rTx := rTx) (tn := tn) (n := n) (N := N) (sy := sy) (ez := ez) (la := la) (ma := ma) (x := x) (md := md) (rws := rws) (sz := sz) (k := 1) (E := ¬ (∃ j, j < N ∧ cc = nI j)) ) gX11_theme_X11_throwsIf rfl (by decide +kernel) rfl ⟨Nat.le_of_ble_eq_true rfl, Nat.le_of_ble_eq_true rfl⟩ ⟨rfl, rfl⟩ ⟨Nat.zero_le _, Nat.zero_le _⟩ (rest := []) rfl (Nat.le_of_ble_eq_true rfl) 0 rfl rfl [0] (by decide) rfl (fun u => Eq.trans (b := [rM]) rfl rfl) (fun u => rfl) (fun v u hp => ?_)
    obtain rfl := hp
    show RW X 0 0 18 [(0, .ref rM), (1, .int cc), (2, .int ww)] [.int (bz (¬ (∃ j, j < N ∧ cc = nI j)))] [(rM, .inr (12, [.int (nI (thrF 1 (¬ (∃ j, j < N ∧ cc = nI j)))), .int (nI n), .int (nI (n / 2)), .int (nI 2), .int (nI sy), .ref rTh, .int (nI ez), .int la, .int ma, .long x, .ref rTe, .int (bz md), .ref rPu, .ref rWh, .ref rGi, .ref rDr, .ref rTr, .ref rKn, .ref rRo, .int (nI rws), .int (nI sz), .ref rTx])), (rTh, .inl (X.1.2.1, 36, .inl (nO th)))]
    refine r_if_ne (tgt := 43) C dX11_theme_18 (by decide) (fun h18 => ?_) (fun h18 => ?_)
    · have h18 : (¬ (∃ j, j < N ∧ cc = nI j)) := bz_n0.mp h18
      rw [thrF_t h18]
      exact hret _ _ _ (1, th) ⟨rfl, fun _ => ⟨rfl, rfl⟩, fun w _ => absurd w h18, fun j k q _ e _ => absurd ⟨j, q, e⟩ h18⟩ (Or.inl ⟨rfl, rfl, dX11_theme_43⟩)
    · have h18 : ¬ ((¬ (∃ j, j < N ∧ cc = nI j))) := bz_0.mp h18
      exact absurd h7 h18
theorem fX11_aim_72 : Cond.fieldLink RX11 72 (TX11 6).1 (TX11 6).2.1 (TX11 6).2.2.1 ∈ wsX11_aim := List.mem_of_getElem? (i := 1) rfl
theorem iX11_aim_X11 : ∀ w ∈ wsX110, w ∈ wsX11_aim := by decide +kernel
theorem fX11_aim_75 : Cond.fieldLink RX11 75 (TX11 7).1 (TX11 7).2.1 (TX11 7).2.2.1 ∈ wsX11_aim := List.mem_of_getElem? (i := 2) rfl
theorem fX11_aim_14 : Cond.fieldLink RX11 14 (TX11 8).1 (TX11 8).2.1 (TX11 8).2.2.1 ∈ wsX11_aim := List.mem_of_getElem? (i := 3) rfl
set_option maxHeartbeats 4000000 in
set_option maxRecDepth 100000 in
theorem c_X11_aim {g : ww_G} {l : Launch} {rM : Nat} {rTh : Nat} {rTe : Nat} {rPu : Nat} {rWh : Nat} {rGi : Nat} {rDr : Nat} {rTr : Nat} {rKn : Nat} {rRo : Nat} {rTx : Nat} {tn : Nat} {n : Nat} {N : Nat} {sy : Nat} {ez : Nat} {la : Int32} {ma : Int32} {x : Int64} {md : Prop} {rws : Nat} {sz : Nat} {ee : Int32} {ll : Int32} {mm : Int32}  : CT g l yX11_aim wsX11_aim (ww_rm 2) [.ref rM, .int ee, .int ll, .int mm] ([(rM, .inr (12, [.int (nI tn), .int (nI n), .int (nI (n / 2)), .int (nI 2), .int (nI sy), .ref rTh, .int (nI ez), .int la, .int ma, .long x, .ref rTe, .int (bz md), .ref rPu, .ref rWh, .ref rGi, .ref rDr, .ref rTr, .ref rKn, .ref rRo, .int (nI rws), .int (nI sz), .ref rTx]))]) (S := Nat × Nat × Int32 × Int32) (fun vv9 u => vv9 = none ∧ (¬ ((∃ k, k < 3 ∧ ee = nI k) ∧ ¬ ll < 0 ∧ ll ≤ mm) → u.1 = 1 ∧ u.2.1 = ez ∧ u.2.2.1 = la ∧ u.2.2.2 = ma) ∧ (∀ k, k < 3 → ee = nI k → ¬ ll < 0 → ll ≤ mm → u.1 = 0 ∧ u.2.1 = k ∧ u.2.2.1 = ll ∧ u.2.2.2 = mm)) (fun u => [(rM, .inr (12, [.int (nI u.1), .int (nI n), .int (nI (n / 2)), .int (nI 2), .int (nI sy), .ref rTh, .int (nI u.2.1), .int u.2.2.1, .int u.2.2.2, .long x, .ref rTe, .int (bz md), .ref rPu, .ref rWh, .ref rGi, .ref rDr, .ref rTr, .ref rKn, .ref rRo, .int (nI rws), .int (nI sz), .ref rTx]))]) := by
  refine CT.of cX11_aim 4 none RX11 (by decide +kernel) rfl rfl (Nat.le_of_ble_eq_true rfl) ?_
  intro X hg hl C hret
  subst hg; subst hl
  show RW X 0 0 0 [(0, .ref rM), (1, .int ee), (2, .int ll), (3, .int mm)] [] [(rM, .inr (12, [.int (nI tn), .int (nI n), .int (nI (n / 2)), .int (nI 2), .int (nI sy), .ref rTh, .int (nI ez), .int la, .int ma, .long x, .ref rTe, .int (bz md), .ref rPu, .ref rWh, .ref rGi, .ref rDr, .ref rTr, .ref rKn, .ref rRo, .int (nI rws), .int (nI sz), .ref rTx]))]
  refine r_aload_n C dX11_aim_0 0 rfl rfl ?_
  refine r_iconst C dX11_aim_1 (v := nI 1) (by decide) ?_
  refine r_iload_n C dX11_aim_2 1 rfl rfl ?_
  refine r_if_lt (tgt := 20) C dX11_aim_3 (by decide) (fun h3 => ?_) (fun h3 => ?_)
  · refine r_iconst C dX11_aim_20 (v := nI 1) (by decide) ?_
    refine r_goto (tgt := 25) C dX11_aim_21 (by decide) ?_
    refine r_top (y := bz (¬ ((∃ k, k < 3 ∧ ee = nI k) ∧ ¬ ll < 0 ∧ ll ≤ mm))) (bz_t (fun w => rg_lo (M := 3) (by omega) h3 w.1)).symm ?_
    refine r_callV0 (n := 2) (ws' := fun (u : Unit) => [(rM, .inr (12, [.int (nI (thrF 1 (¬ ((∃ k, k < 3 ∧ ee = nI k) ∧ ¬ ll < 0 ∧ ll ≤ mm)))), .int (nI n), .int (nI (n / 2)), .int (nI 2), .int (nI sy), .ref rTh, .int (nI ez), .int la, .int ma, .long x, .ref rTe, .int (bz md), .ref rPu, .ref rWh, .ref rGi, .ref rDr, .ref rTr, .ref rKn, .ref rRo, .int (nI rws), .int (nI sz), .ref rTx]))]) C dX11_aim_25 (c_X11_throwsIf (g := X.1) (l := X.2.2.1) (rM := rM) (rTh := rTh) (rTe := rTe) (rPu := rPu) (rWh := rWh) (rGi := rGi) (rDr := rDr) (rTr := rTr) (rKn := rKn) (rRo := rRo) (rTx := rTx) (tn := tn) (n := n) (N := N) (sy := sy) (ez := ez) (la := la) (ma := ma) (x := x) (md := md) (rws := rws) (sz := sz) (k := 1) (E := ¬ ((∃ k, k < 3 ∧ ee = nI k) ∧ ¬ ll < 0 ∧ ll ≤ mm)) ) gX11_aim_X11_throwsIf rfl (by decide +kernel) rfl ⟨Nat.le_of_ble_eq_true rfl, Nat.le_of_ble_eq_true rfl⟩ ⟨rfl, rfl⟩ ⟨Nat.zero_le _, Nat.zero_le _⟩ (rest := []) rfl (Nat.le_of_ble_eq_true rfl) 0 rfl rfl [0] (by decide) rfl (fun u => Eq.trans (b := [rM]) rfl rfl) (fun u => rfl) (fun v u hp => ?_)
    obtain rfl := hp
    show RW X 0 0 28 [(0, .ref rM), (1, .int ee), (2, .int ll), (3, .int mm)] [.int (bz (¬ ((∃ k, k < 3 ∧ ee = nI k) ∧ ¬ ll < 0 ∧ ll ≤ mm)))] [(rM, .inr (12, [.int (nI (thrF 1 (¬ ((∃ k, k < 3 ∧ ee = nI k) ∧ ¬ ll < 0 ∧ ll ≤ mm)))), .int (nI n), .int (nI (n / 2)), .int (nI 2), .int (nI sy), .ref rTh, .int (nI ez), .int la, .int ma, .long x, .ref rTe, .int (bz md), .ref rPu, .ref rWh, .ref rGi, .ref rDr, .ref rTr, .ref rKn, .ref rRo, .int (nI rws), .int (nI sz), .ref rTx]))]
    refine r_if_eq (tgt := 32) C dX11_aim_28 (by decide) (fun h28 => ?_) (fun h28 => ?_)
    · have h28 : ¬ ((¬ ((∃ k, k < 3 ∧ ee = nI k) ∧ ¬ ll < 0 ∧ ll ≤ mm))) := bz_0.mp h28
      exact absurd (show ¬ ((∃ k, k < 3 ∧ ee = nI k) ∧ ¬ ll < 0 ∧ ll ≤ mm) from fun w => rg_lo (M := 3) (by omega) h3 w.1) h28
    · have h28 : (¬ ((∃ k, k < 3 ∧ ee = nI k) ∧ ¬ ll < 0 ∧ ll ≤ mm)) := bz_n0.mp h28
      rw [thrF_t h28]
      exact hret _ _ _ (1, ez, la, ma) ⟨rfl, fun _ => ⟨rfl, rfl, rfl, rfl⟩, fun k q1 e1 e2 e3 => absurd ⟨⟨k, q1, e1⟩, e2, e3⟩ h28⟩ (Or.inl ⟨rfl, rfl, dX11_aim_31⟩)
  · refine r_iload_n C dX11_aim_6 1 rfl rfl ?_
    refine r_iconst C dX11_aim_7 (v := nI 2) (by decide) ?_
    refine r_icmp_gt (tgt := 20) C dX11_aim_8 (by decide) (fun h8 => ?_) (fun h8 => ?_)
    · refine r_iconst C dX11_aim_20 (v := nI 1) (by decide) ?_
      refine r_goto (tgt := 25) C dX11_aim_21 (by decide) ?_
      refine r_top (y := bz (¬ ((∃ k, k < 3 ∧ ee = nI k) ∧ ¬ ll < 0 ∧ ll ≤ mm))) (bz_t (fun w => rg_hi (m := 2) (by omega) (Int32.not_le.mpr h8) w.1)).symm ?_
      refine r_callV0 (n := 2) (ws' := fun (u : Unit) => [(rM, .inr (12, [.int (nI (thrF 1 (¬ ((∃ k, k < 3 ∧ ee = nI k) ∧ ¬ ll < 0 ∧ ll ≤ mm)))), .int (nI n), .int (nI (n / 2)), .int (nI 2), .int (nI sy), .ref rTh, .int (nI ez), .int la, .int ma, .long x, .ref rTe, .int (bz md), .ref rPu, .ref rWh, .ref rGi, .ref rDr, .ref rTr, .ref rKn, .ref rRo, .int (nI rws), .int (nI sz), .ref rTx]))]) C dX11_aim_25 (c_X11_throwsIf (g := X.1) (l := X.2.2.1) (rM := rM) (rTh := rTh) (rTe := rTe) (rPu := rPu) (rWh := rWh) (rGi := rGi) (rDr := rDr) (rTr := rTr) (rKn := rKn) (rRo := rRo) (rTx := rTx) (tn := tn) (n := n) (N := N) (sy := sy) (ez := ez) (la := la) (ma := ma) (x := x) (md := md) (rws := rws) (sz := sz) (k := 1) (E := ¬ ((∃ k, k < 3 ∧ ee = nI k) ∧ ¬ ll < 0 ∧ ll ≤ mm)) ) gX11_aim_X11_throwsIf rfl (by decide +kernel) rfl ⟨Nat.le_of_ble_eq_true rfl, Nat.le_of_ble_eq_true rfl⟩ ⟨rfl, rfl⟩ ⟨Nat.zero_le _, Nat.zero_le _⟩ (rest := []) rfl (Nat.le_of_ble_eq_true rfl) 0 rfl rfl [0] (by decide) rfl (fun u => Eq.trans (b := [rM]) rfl rfl) (fun u => rfl) (fun v u hp => ?_)
      obtain rfl := hp
      show RW X 0 0 28 [(0, .ref rM), (1, .int ee), (2, .int ll), (3, .int mm)] [.int (bz (¬ ((∃ k, k < 3 ∧ ee = nI k) ∧ ¬ ll < 0 ∧ ll ≤ mm)))] [(rM, .inr (12, [.int (nI (thrF 1 (¬ ((∃ k, k < 3 ∧ ee = nI k) ∧ ¬ ll < 0 ∧ ll ≤ mm)))), .int (nI n), .int (nI (n / 2)), .int (nI 2), .int (nI sy), .ref rTh, .int (nI ez), .int la, .int ma, .long x, .ref rTe, .int (bz md), .ref rPu, .ref rWh, .ref rGi, .ref rDr, .ref rTr, .ref rKn, .ref rRo, .int (nI rws), .int (nI sz), .ref rTx]))]
      refine r_if_eq (tgt := 32) C dX11_aim_28 (by decide) (fun h28 => ?_) (fun h28 => ?_)
      · have h28 : ¬ ((¬ ((∃ k, k < 3 ∧ ee = nI k) ∧ ¬ ll < 0 ∧ ll ≤ mm))) := bz_0.mp h28
        exact absurd (show ¬ ((∃ k, k < 3 ∧ ee = nI k) ∧ ¬ ll < 0 ∧ ll ≤ mm) from fun w => rg_hi (m := 2) (by omega) (Int32.not_le.mpr h8) w.1) h28
      · have h28 : (¬ ((∃ k, k < 3 ∧ ee = nI k) ∧ ¬ ll < 0 ∧ ll ≤ mm)) := bz_n0.mp h28
        rw [thrF_t h28]
        exact hret _ _ _ (1, ez, la, ma) ⟨rfl, fun _ => ⟨rfl, rfl, rfl, rfl⟩, fun k q1 e1 e2 e3 => absurd ⟨⟨k, q1, e1⟩, e2, e3⟩ h28⟩ (Or.inl ⟨rfl, rfl, dX11_aim_31⟩)
    · refine r_iload_n C dX11_aim_11 2 rfl rfl ?_
      refine r_if_lt (tgt := 20) C dX11_aim_12 (by decide) (fun h12 => ?_) (fun h12 => ?_)
      · refine r_iconst C dX11_aim_20 (v := nI 1) (by decide) ?_
        refine r_goto (tgt := 25) C dX11_aim_21 (by decide) ?_
        refine r_top (y := bz (¬ ((∃ k, k < 3 ∧ ee = nI k) ∧ ¬ ll < 0 ∧ ll ≤ mm))) (bz_t (fun w => w.2.1 h12)).symm ?_
        refine r_callV0 (n := 2) (ws' := fun (u : Unit) => [(rM, .inr (12, [.int (nI (thrF 1 (¬ ((∃ k, k < 3 ∧ ee = nI k) ∧ ¬ ll < 0 ∧ ll ≤ mm)))), .int (nI n), .int (nI (n / 2)), .int (nI 2), .int (nI sy), .ref rTh, .int (nI ez), .int la, .int ma, .long x, .ref rTe, .int (bz md), .ref rPu, .ref rWh, .ref rGi, .ref rDr, .ref rTr, .ref rKn, .ref rRo, .int (nI rws), .int (nI sz), .ref rTx]))]) C dX11_aim_25 (c_X11_throwsIf (g := X.1) (l := X.2.2.1) (rM := rM) (rTh := rTh) (rTe := rTe) (rPu := rPu) (rWh := rWh) (rGi := rGi) (rDr := rDr) (rTr := rTr) (rKn := rKn) (rRo := rRo) (rTx := rTx) (tn := tn) (n := n) (N := N) (sy := sy) (ez := ez) (la := la) (ma := ma) (x := x) (md := md) (rws := rws) (sz := sz) (k := 1) (E := ¬ ((∃ k, k < 3 ∧ ee = nI k) ∧ ¬ ll < 0 ∧ ll ≤ mm)) ) gX11_aim_X11_throwsIf rfl (by decide +kernel) rfl ⟨Nat.le_of_ble_eq_true rfl, Nat.le_of_ble_eq_true rfl⟩ ⟨rfl, rfl⟩ ⟨Nat.zero_le _, Nat.zero_le _⟩ (rest := []) rfl (Nat.le_of_ble_eq_true rfl) 0 rfl rfl [0] (by decide) rfl (fun u => Eq.trans (b := [rM]) rfl rfl) (fun u => rfl) (fun v u hp => ?_)
        obtain rfl := hp
        show RW X 0 0 28 [(0, .ref rM), (1, .int ee), (2, .int ll), (3, .int mm)] [.int (bz (¬ ((∃ k, k < 3 ∧ ee = nI k) ∧ ¬ ll < 0 ∧ ll ≤ mm)))] [(rM, .inr (12, [.int (nI (thrF 1 (¬ ((∃ k, k < 3 ∧ ee = nI k) ∧ ¬ ll < 0 ∧ ll ≤ mm)))), .int (nI n), .int (nI (n / 2)), .int (nI 2), .int (nI sy), .ref rTh, .int (nI ez), .int la, .int ma, .long x, .ref rTe, .int (bz md), .ref rPu, .ref rWh, .ref rGi, .ref rDr, .ref rTr, .ref rKn, .ref rRo, .int (nI rws), .int (nI sz), .ref rTx]))]
        refine r_if_eq (tgt := 32) C dX11_aim_28 (by decide) (fun h28 => ?_) (fun h28 => ?_)
        · have h28 : ¬ ((¬ ((∃ k, k < 3 ∧ ee = nI k) ∧ ¬ ll < 0 ∧ ll ≤ mm))) := bz_0.mp h28
          exact absurd (show ¬ ((∃ k, k < 3 ∧ ee = nI k) ∧ ¬ ll < 0 ∧ ll ≤ mm) from fun w => w.2.1 h12) h28
        · have h28 : (¬ ((∃ k, k < 3 ∧ ee = nI k) ∧ ¬ ll < 0 ∧ ll ≤ mm)) := bz_n0.mp h28
          rw [thrF_t h28]
          exact hret _ _ _ (1, ez, la, ma) ⟨rfl, fun _ => ⟨rfl, rfl, rfl, rfl⟩, fun k q1 e1 e2 e3 => absurd ⟨⟨k, q1, e1⟩, e2, e3⟩ h28⟩ (Or.inl ⟨rfl, rfl, dX11_aim_31⟩)
      · refine r_iload_n C dX11_aim_15 2 rfl rfl ?_
        refine r_iload_n C dX11_aim_16 3 rfl rfl ?_
        refine r_icmp_le (tgt := 24) C dX11_aim_17 (by decide) (fun h17 => ?_) (fun h17 => ?_)
        · refine r_iconst C dX11_aim_24 (v := nI 0) (by decide) ?_
          refine r_top (y := bz (¬ ((∃ k, k < 3 ∧ ee = nI k) ∧ ¬ ll < 0 ∧ ll ≤ mm))) (bz_f (fun w => w ⟨rg_in (m := 2) (by omega) h3 (Int32.not_lt.mp h8), h12, h17⟩)).symm ?_
          refine r_callV0 (n := 2) (ws' := fun (u : Unit) => [(rM, .inr (12, [.int (nI (thrF 1 (¬ ((∃ k, k < 3 ∧ ee = nI k) ∧ ¬ ll < 0 ∧ ll ≤ mm)))), .int (nI n), .int (nI (n / 2)), .int (nI 2), .int (nI sy), .ref rTh, .int (nI ez), .int la, .int ma, .long x, .ref rTe, .int (bz md), .ref rPu, .ref rWh, .ref rGi, .ref rDr, .ref rTr, .ref rKn, .ref rRo, .int (nI rws), .int (nI sz), .ref rTx]))]) C dX11_aim_25 (c_X11_throwsIf (g := X.1) (l := X.2.2.1) (rM := rM) (rTh := rTh) (rTe := rTe) (rPu := rPu) (rWh := rWh) (rGi := rGi) (rDr := rDr) (rTr := rTr) (rKn := rKn) (rRo := rRo) (rTx := rTx) (tn := tn) (n := n) (N := N) (sy := sy) (ez := ez) (la := la) (ma := ma) (x := x) (md := md) (rws := rws) (sz := sz) (k := 1) (E := ¬ ((∃ k, k < 3 ∧ ee = nI k) ∧ ¬ ll < 0 ∧ ll ≤ mm)) ) gX11_aim_X11_throwsIf rfl (by decide +kernel) rfl ⟨Nat.le_of_ble_eq_true rfl, Nat.le_of_ble_eq_true rfl⟩ ⟨rfl, rfl⟩ ⟨Nat.zero_le _, Nat.zero_le _⟩ (rest := []) rfl (Nat.le_of_ble_eq_true rfl) 0 rfl rfl [0] (by decide) rfl (fun u => Eq.trans (b := [rM]) rfl rfl) (fun u => rfl) (fun v u hp => ?_)
          obtain rfl := hp
          show RW X 0 0 28 [(0, .ref rM), (1, .int ee), (2, .int ll), (3, .int mm)] [.int (bz (¬ ((∃ k, k < 3 ∧ ee = nI k) ∧ ¬ ll < 0 ∧ ll ≤ mm)))] [(rM, .inr (12, [.int (nI (thrF 1 (¬ ((∃ k, k < 3 ∧ ee = nI k) ∧ ¬ ll < 0 ∧ ll ≤ mm)))), .int (nI n), .int (nI (n / 2)), .int (nI 2), .int (nI sy), .ref rTh, .int (nI ez), .int la, .int ma, .long x, .ref rTe, .int (bz md), .ref rPu, .ref rWh, .ref rGi, .ref rDr, .ref rTr, .ref rKn, .ref rRo, .int (nI rws), .int (nI sz), .ref rTx]))]
          refine r_if_eq (tgt := 32) C dX11_aim_28 (by decide) (fun h28 => ?_) (fun h28 => ?_)
          · have h28 : ¬ ((¬ ((∃ k, k < 3 ∧ ee = nI k) ∧ ¬ ll < 0 ∧ ll ≤ mm))) := bz_0.mp h28
            rw [thrF_f h28]
            obtain ⟨k, hk, rfl⟩ := rg_in (m := 2) (by omega) h3 (Int32.not_lt.mp h8)
            refine r_aload_n C dX11_aim_32 0 rfl rfl ?_
            refine r_iload_n C dX11_aim_33 1 rfl rfl ?_
            refine r_put C dX11_aim_34 iX11_aim_X11 tyX11 tyX11_ok nmX11 6 fX11_aim_72 0 rfl rfl (by decide) rfl rfl rfl rfl (Nat.le_of_ble_eq_true rfl) (ws' := [(rM, .inr (12, [.int (nI 0), .int (nI n), .int (nI (n / 2)), .int (nI 2), .int (nI sy), .ref rTh, .int (nI k), .int la, .int ma, .long x, .ref rTe, .int (bz md), .ref rPu, .ref rWh, .ref rGi, .ref rDr, .ref rTr, .ref rKn, .ref rRo, .int (nI rws), .int (nI sz), .ref rTx]))]) rfl ?_
            refine r_aload_n C dX11_aim_37 0 rfl rfl ?_
            refine r_iload_n C dX11_aim_38 2 rfl rfl ?_
            refine r_put C dX11_aim_39 iX11_aim_X11 tyX11 tyX11_ok nmX11 7 fX11_aim_75 0 rfl rfl (by decide) rfl rfl rfl rfl (Nat.le_of_ble_eq_true rfl) (ws' := [(rM, .inr (12, [.int (nI 0), .int (nI n), .int (nI (n / 2)), .int (nI 2), .int (nI sy), .ref rTh, .int (nI k), .int ll, .int ma, .long x, .ref rTe, .int (bz md), .ref rPu, .ref rWh, .ref rGi, .ref rDr, .ref rTr, .ref rKn, .ref rRo, .int (nI rws), .int (nI sz), .ref rTx]))]) rfl ?_
            refine r_aload_n C dX11_aim_42 0 rfl rfl ?_
            refine r_iload_n C dX11_aim_43 3 rfl rfl ?_
            refine r_put C dX11_aim_44 iX11_aim_X11 tyX11 tyX11_ok nmX11 8 fX11_aim_14 0 rfl rfl (by decide) rfl rfl rfl rfl (Nat.le_of_ble_eq_true rfl) (ws' := [(rM, .inr (12, [.int (nI 0), .int (nI n), .int (nI (n / 2)), .int (nI 2), .int (nI sy), .ref rTh, .int (nI k), .int ll, .int mm, .long x, .ref rTe, .int (bz md), .ref rPu, .ref rWh, .ref rGi, .ref rDr, .ref rTr, .ref rKn, .ref rRo, .int (nI rws), .int (nI sz), .ref rTx]))]) rfl ?_
            exact hret _ _ _ (0, k, ll, mm) ⟨rfl, fun w => absurd ⟨⟨k, hk, rfl⟩, h12, h17⟩ w, fun k2 q e _ _ => by
                    have a : k = k2 := (nI_eq (by omega) (by omega)).mp e
                    subst a; exact ⟨rfl, rfl, rfl, rfl⟩⟩ (Or.inl ⟨rfl, rfl, dX11_aim_47⟩)
          · have h28 : (¬ ((∃ k, k < 3 ∧ ee = nI k) ∧ ¬ ll < 0 ∧ ll ≤ mm)) := bz_n0.mp h28
            exact absurd (show (∃ k, k < 3 ∧ ee = nI k) ∧ ¬ ll < 0 ∧ ll ≤ mm from ⟨rg_in (m := 2) (by omega) h3 (Int32.not_lt.mp h8), h12, h17⟩) h28
        · refine r_iconst C dX11_aim_20 (v := nI 1) (by decide) ?_
          refine r_goto (tgt := 25) C dX11_aim_21 (by decide) ?_
          refine r_top (y := bz (¬ ((∃ k, k < 3 ∧ ee = nI k) ∧ ¬ ll < 0 ∧ ll ≤ mm))) (bz_t (fun w => h17 w.2.2)).symm ?_
          refine r_callV0 (n := 2) (ws' := fun (u : Unit) => [(rM, .inr (12, [.int (nI (thrF 1 (¬ ((∃ k, k < 3 ∧ ee = nI k) ∧ ¬ ll < 0 ∧ ll ≤ mm)))), .int (nI n), .int (nI (n / 2)), .int (nI 2), .int (nI sy), .ref rTh, .int (nI ez), .int la, .int ma, .long x, .ref rTe, .int (bz md), .ref rPu, .ref rWh, .ref rGi, .ref rDr, .ref rTr, .ref rKn, .ref rRo, .int (nI rws), .int (nI sz), .ref rTx]))]) C dX11_aim_25 (c_X11_throwsIf (g := X.1) (l := X.2.2.1) (rM := rM) (rTh := rTh) (rTe := rTe) (rPu := rPu) (rWh := rWh) (rGi := rGi) (rDr := rDr) (rTr := rTr) (rKn := rKn) (rRo := rRo) (rTx := rTx) (tn := tn) (n := n) (N := N) (sy := sy) (ez := ez) (la := la) (ma := ma) (x := x) (md := md) (rws := rws) (sz := sz) (k := 1) (E := ¬ ((∃ k, k < 3 ∧ ee = nI k) ∧ ¬ ll < 0 ∧ ll ≤ mm)) ) gX11_aim_X11_throwsIf rfl (by decide +kernel) rfl ⟨Nat.le_of_ble_eq_true rfl, Nat.le_of_ble_eq_true rfl⟩ ⟨rfl, rfl⟩ ⟨Nat.zero_le _, Nat.zero_le _⟩ (rest := []) rfl (Nat.le_of_ble_eq_true rfl) 0 rfl rfl [0] (by decide) rfl (fun u => Eq.trans (b := [rM]) rfl rfl) (fun u => rfl) (fun v u hp => ?_)
          obtain rfl := hp
          show RW X 0 0 28 [(0, .ref rM), (1, .int ee), (2, .int ll), (3, .int mm)] [.int (bz (¬ ((∃ k, k < 3 ∧ ee = nI k) ∧ ¬ ll < 0 ∧ ll ≤ mm)))] [(rM, .inr (12, [.int (nI (thrF 1 (¬ ((∃ k, k < 3 ∧ ee = nI k) ∧ ¬ ll < 0 ∧ ll ≤ mm)))), .int (nI n), .int (nI (n / 2)), .int (nI 2), .int (nI sy), .ref rTh, .int (nI ez), .int la, .int ma, .long x, .ref rTe, .int (bz md), .ref rPu, .ref rWh, .ref rGi, .ref rDr, .ref rTr, .ref rKn, .ref rRo, .int (nI rws), .int (nI sz), .ref rTx]))]
          refine r_if_eq (tgt := 32) C dX11_aim_28 (by decide) (fun h28 => ?_) (fun h28 => ?_)
          · have h28 : ¬ ((¬ ((∃ k, k < 3 ∧ ee = nI k) ∧ ¬ ll < 0 ∧ ll ≤ mm))) := bz_0.mp h28
            exact absurd (show ¬ ((∃ k, k < 3 ∧ ee = nI k) ∧ ¬ ll < 0 ∧ ll ≤ mm) from fun w => h17 w.2.2) h28
          · have h28 : (¬ ((∃ k, k < 3 ∧ ee = nI k) ∧ ¬ ll < 0 ∧ ll ≤ mm)) := bz_n0.mp h28
            rw [thrF_t h28]
            exact hret _ _ _ (1, ez, la, ma) ⟨rfl, fun _ => ⟨rfl, rfl, rfl, rfl⟩, fun k q1 e1 e2 e3 => absurd ⟨⟨k, q1, e1⟩, e2, e3⟩ h28⟩ (Or.inl ⟨rfl, rfl, dX11_aim_31⟩)
theorem fX11_given_148 : Cond.fieldLink RX11 148 (TX11 11).1 (TX11 11).2.1 (TX11 11).2.2.1 ∈ wsX11_given := List.mem_of_getElem? (i := 1) rfl
theorem iX11_given_X11 : ∀ w ∈ wsX110, w ∈ wsX11_given := by decide +kernel
theorem fX11_given_21 : Cond.fieldLink RX11 21 (TX11 12).1 (TX11 12).2.1 (TX11 12).2.2.1 ∈ wsX11_given := List.mem_of_getElem? (i := 2) rfl
set_option maxHeartbeats 4000000 in
set_option maxRecDepth 100000 in
theorem c_X11_given {g : ww_G} {l : Launch} {rM : Nat} {rTh : Nat} {rTe : Nat} {rPu : Nat} {rWh : Nat} {rGi : Nat} {rDr : Nat} {rTr : Nat} {rKn : Nat} {rRo : Nat} {rTx : Nat} {tn : Nat} {n : Nat} {N : Nat} {sy : Nat} {ez : Nat} {la : Int32} {ma : Int32} {x : Int64} {md : Prop} {rws : Nat} {sz : Nat} {pu : Nat → Option Nat} {cc : Int32} (hn : (n = 4 ∧ N = 16) ∨ (n = 6 ∧ N = 36)) : CT g l yX11_given wsX11_given (ww_rm 3) [.ref rM, .int cc] ([(rM, .inr (12, [.int (nI tn), .int (nI n), .int (nI (n / 2)), .int (nI 2), .int (nI sy), .ref rTh, .int (nI ez), .int la, .int ma, .long x, .ref rTe, .int (bz md), .ref rPu, .ref rWh, .ref rGi, .ref rDr, .ref rTr, .ref rKn, .ref rRo, .int (nI rws), .int (nI sz), .ref rTx])), (rPu, .inl (g.2.1, 36, .inl (eb pu)))]) (S := Nat × Int32) (fun vv9 u => vv9 = some (.int u.2) ∧ (¬ (∃ j, j < N ∧ cc = nI j) → u.1 = 1) ∧ ((∃ j, j < N ∧ cc = nI j) → u.1 = 0) ∧ (∀ j, j < N → cc = nI j → md → u.2 = eo (pu j)) ∧ ((∃ j, j < N ∧ cc = nI j) → ¬ md → u.2 = -1)) (fun u => [(rM, .inr (12, [.int (nI u.1), .int (nI n), .int (nI (n / 2)), .int (nI 2), .int (nI sy), .ref rTh, .int (nI ez), .int la, .int ma, .long x, .ref rTe, .int (bz md), .ref rPu, .ref rWh, .ref rGi, .ref rDr, .ref rTr, .ref rKn, .ref rRo, .int (nI rws), .int (nI sz), .ref rTx])), (rPu, .inl (g.2.1, 36, .inl (eb pu)))]) := by
  refine CT.of cX11_given 2 (some .int) RX11 (by decide +kernel) rfl rfl (Nat.le_of_ble_eq_true rfl) ?_
  intro X hg hl C hret
  subst hg; subst hl
  show RW X 0 0 0 [(0, .ref rM), (1, .int cc)] [] [(rM, .inr (12, [.int (nI tn), .int (nI n), .int (nI (n / 2)), .int (nI 2), .int (nI sy), .ref rTh, .int (nI ez), .int la, .int ma, .long x, .ref rTe, .int (bz md), .ref rPu, .ref rWh, .ref rGi, .ref rDr, .ref rTr, .ref rKn, .ref rRo, .int (nI rws), .int (nI sz), .ref rTx])), (rPu, .inl (X.1.2.1, 36, .inl (eb pu)))]
  refine r_aload_n C dX11_given_0 0 rfl rfl ?_
  refine r_iconst C dX11_given_1 (v := nI 1) (by decide) ?_
  refine r_aload_n C dX11_given_2 0 rfl rfl ?_
  refine r_iload_n C dX11_given_3 1 rfl rfl ?_
  refine r_callV0 (n := 1) (ws' := fun (u : Unit) => [(rM, .inr (12, [.int (nI tn), .int (nI n), .int (nI (n / 2)), .int (nI 2), .int (nI sy), .ref rTh, .int (nI ez), .int la, .int ma, .long x, .ref rTe, .int (bz md), .ref rPu, .ref rWh, .ref rGi, .ref rDr, .ref rTr, .ref rKn, .ref rRo, .int (nI rws), .int (nI sz), .ref rTx])), (rPu, .inl (X.1.2.1, 36, .inl (eb pu)))]) C dX11_given_4 (c_X11_isCell (g := X.1) (l := X.2.2.1) (rM := rM) (rTh := rTh) (rTe := rTe) (rPu := rPu) (rWh := rWh) (rGi := rGi) (rDr := rDr) (rTr := rTr) (rKn := rKn) (rRo := rRo) (rTx := rTx) (tn := tn) (n := n) (N := N) (sy := sy) (ez := ez) (la := la) (ma := ma) (x := x) (md := md) (rws := rws) (sz := sz) (c := cc) (hn := (by first | assumption | omega))) gX11_given_X11_isCell rfl (by decide +kernel) rfl ⟨Nat.le_of_ble_eq_true rfl, Nat.le_of_ble_eq_true rfl⟩ ⟨rfl, rfl⟩ ⟨Nat.zero_le _, Nat.zero_le _⟩ (rest := [.int (nI 1), .ref rM]) rfl (Nat.le_of_ble_eq_true rfl) 0 rfl rfl [0] (by decide) rfl (fun u => Eq.trans (b := [rM]) rfl rfl) (fun u => rfl) (fun v u hp => ?_)
  obtain rfl := hp
  show RW X 0 0 7 [(0, .ref rM), (1, .int cc)] [.int (bz (∃ j, j < N ∧ cc = nI j)), .int (nI 1), .ref rM] [(rM, .inr (12, [.int (nI tn), .int (nI n), .int (nI (n / 2)), .int (nI 2), .int (nI sy), .ref rTh, .int (nI ez), .int la, .int ma, .long x, .ref rTe, .int (bz md), .ref rPu, .ref rWh, .ref rGi, .ref rDr, .ref rTr, .ref rKn, .ref rRo, .int (nI rws), .int (nI sz), .ref rTx])), (rPu, .inl (X.1.2.1, 36, .inl (eb pu)))]
  refine r_if_ne (tgt := 14) C dX11_given_7 (by decide) (fun h7 => ?_) (fun h7 => ?_)
  · have h7 : ∃ j, j < N ∧ cc = nI j := bz_n0.mp h7
    refine r_iconst C dX11_given_14 (v := nI 0) (by decide) ?_
    refine r_top (y := bz (¬ (∃ j, j < N ∧ cc = nI j))) (bz_f (fun w => w h7)).symm ?_
    refine r_callV0 (n := 2) (ws' := fun (u : Unit) => [(rM, .inr (12, [.int (nI (thrF 1 (¬ (∃ j, j < N ∧ cc = nI j)))), .int (nI n), .int (nI (n / 2)), .int (nI 2), .int (nI sy), .ref rTh, .int (nI ez), .int la, .int ma, .long x, .ref rTe, .int (bz md), .ref rPu, .ref rWh, .ref rGi, .ref rDr, .ref rTr, .ref rKn, .ref rRo, .int (nI rws), .int (nI sz), .ref rTx])), (rPu, .inl (X.1.2.1, 36, .inl (eb pu)))]) C dX11_given_15 (c_X11_throwsIf (g := X.1) (l := X.2.2.1) (rM := rM) (rTh := rTh) (rTe := rTe) (rPu := rPu) (rWh := rWh) (rGi := rGi) (rDr := rDr) (rTr := rTr) (rKn := rKn) (rRo := rRo) (rTx := rTx) (tn := tn) (n := n) (N := N) (sy := sy) (ez := ez) (la := la) (ma := ma) (x := x) (md := md) (rws := rws) (sz := sz) (k := 1) (E := ¬ (∃ j, j < N ∧ cc = nI j)) ) gX11_given_X11_throwsIf rfl (by decide +kernel) rfl ⟨Nat.le_of_ble_eq_true rfl, Nat.le_of_ble_eq_true rfl⟩ ⟨rfl, rfl⟩ ⟨Nat.zero_le _, Nat.zero_le _⟩ (rest := []) rfl (Nat.le_of_ble_eq_true rfl) 0 rfl rfl [0] (by decide) rfl (fun u => Eq.trans (b := [rM]) rfl rfl) (fun u => rfl) (fun v u hp => ?_)
    obtain rfl := hp
    show RW X 0 0 18 [(0, .ref rM), (1, .int cc)] [.int (bz (¬ (∃ j, j < N ∧ cc = nI j)))] [(rM, .inr (12, [.int (nI (thrF 1 (¬ (∃ j, j < N ∧ cc = nI j)))), .int (nI n), .int (nI (n / 2)), .int (nI 2), .int (nI sy), .ref rTh, .int (nI ez), .int la, .int ma, .long x, .ref rTe, .int (bz md), .ref rPu, .ref rWh, .ref rGi, .ref rDr, .ref rTr, .ref rKn, .ref rRo, .int (nI rws), .int (nI sz), .ref rTx])), (rPu, .inl (X.1.2.1, 36, .inl (eb pu)))]
    refine r_if_eq (tgt := 23) C dX11_given_18 (by decide) (fun h18 => ?_) (fun h18 => ?_)
    · have h18 : ¬ ((¬ (∃ j, j < N ∧ cc = nI j))) := bz_0.mp h18
      rw [thrF_f h18]
      obtain ⟨j, hj, rfl⟩ := h7
      refine r_aload_n C dX11_given_23 0 rfl rfl ?_
      refine r_get C dX11_given_24 iX11_given_X11 11 fX11_given_148 0 rfl rfl (by decide) rfl ?_
      refine r_if_eq (tgt := 39) C dX11_given_27 (by decide) (fun h27 => ?_) (fun h27 => ?_)
      · have h27 : ¬ (md) := bz_0.mp h27
        refine r_iconst C dX11_given_39 (v := (-1)) (by decide) ?_
        exact hret _ _ _ (0, (-1)) ⟨rfl, fun w => absurd ⟨j, hj, rfl⟩ w, fun _ => rfl, fun _ _ _ w => absurd w h27, fun _ _ => rfl⟩ (Or.inr ⟨_, rfl, dX11_given_40, Or.inl rfl⟩)
      · have h27 : md := bz_n0.mp h27
        refine r_aload_n C dX11_given_30 0 rfl rfl ?_
        refine r_get C dX11_given_31 iX11_given_X11 12 fX11_given_21 0 rfl rfl (by decide) rfl ?_
        refine r_iload_n C dX11_given_34 1 rfl rfl ?_
        refine r_iald C dX11_given_35 1 rfl (by omega) (by omega) ?_
        refine r_goto (tgt := 40) C dX11_given_36 (by decide) ?_
        exact hret _ _ _ (0, eo (pu j)) ⟨rfl, fun w => absurd ⟨j, hj, rfl⟩ w, fun _ => rfl, fun j2 q e _ => by
                  have a : j = j2 := (nI_eq (by omega) (by omega)).mp e
                  subst a; rfl, fun _ w => absurd h27 w⟩ (Or.inr ⟨_, rfl, dX11_given_40, Or.inl rfl⟩)
    · have h18 : (¬ (∃ j, j < N ∧ cc = nI j)) := bz_n0.mp h18
      exact absurd h7 h18
  · have h7 : ¬ (∃ j, j < N ∧ cc = nI j) := bz_0.mp h7
    refine r_iconst C dX11_given_10 (v := nI 1) (by decide) ?_
    refine r_goto (tgt := 15) C dX11_given_11 (by decide) ?_
    refine r_top (y := bz (¬ (∃ j, j < N ∧ cc = nI j))) (bz_t h7).symm ?_
    refine r_callV0 (n := 2) (ws' := fun (u : Unit) => [(rM, .inr (12, [.int (nI (thrF 1 (¬ (∃ j, j < N ∧ cc = nI j)))), .int (nI n), .int (nI (n / 2)), .int (nI 2), .int (nI sy), .ref rTh, .int (nI ez), .int la, .int ma, .long x, .ref rTe, .int (bz md), .ref rPu, .ref rWh, .ref rGi, .ref rDr, .ref rTr, .ref rKn, .ref rRo, .int (nI rws), .int (nI sz), .ref rTx])), (rPu, .inl (X.1.2.1, 36, .inl (eb pu)))]) C dX11_given_15 (c_X11_throwsIf (g := X.1) (l := X.2.2.1) (rM := rM) (rTh := rTh) (rTe := rTe) (rPu := rPu) (rWh := rWh) (rGi := rGi) (rDr := rDr) (rTr := rTr) (rKn := rKn) (rRo := rRo) (rTx := rTx) (tn := tn) (n := n) (N := N) (sy := sy) (ez := ez) (la := la) (ma := ma) (x := x) (md := md) (rws := rws) (sz := sz) (k := 1) (E := ¬ (∃ j, j < N ∧ cc = nI j)) ) gX11_given_X11_throwsIf rfl (by decide +kernel) rfl ⟨Nat.le_of_ble_eq_true rfl, Nat.le_of_ble_eq_true rfl⟩ ⟨rfl, rfl⟩ ⟨Nat.zero_le _, Nat.zero_le _⟩ (rest := []) rfl (Nat.le_of_ble_eq_true rfl) 0 rfl rfl [0] (by decide) rfl (fun u => Eq.trans (b := [rM]) rfl rfl) (fun u => rfl) (fun v u hp => ?_)
    obtain rfl := hp
    show RW X 0 0 18 [(0, .ref rM), (1, .int cc)] [.int (bz (¬ (∃ j, j < N ∧ cc = nI j)))] [(rM, .inr (12, [.int (nI (thrF 1 (¬ (∃ j, j < N ∧ cc = nI j)))), .int (nI n), .int (nI (n / 2)), .int (nI 2), .int (nI sy), .ref rTh, .int (nI ez), .int la, .int ma, .long x, .ref rTe, .int (bz md), .ref rPu, .ref rWh, .ref rGi, .ref rDr, .ref rTr, .ref rKn, .ref rRo, .int (nI rws), .int (nI sz), .ref rTx])), (rPu, .inl (X.1.2.1, 36, .inl (eb pu)))]
    refine r_if_eq (tgt := 23) C dX11_given_18 (by decide) (fun h18 => ?_) (fun h18 => ?_)
    · have h18 : ¬ ((¬ (∃ j, j < N ∧ cc = nI j))) := bz_0.mp h18
      exact absurd h7 h18
    · have h18 : (¬ (∃ j, j < N ∧ cc = nI j)) := bz_n0.mp h18
      rw [thrF_t h18]
      refine r_iconst C dX11_given_21 (v := nI 0) (by decide) ?_
      exact hret _ _ _ (1, nI 0) ⟨rfl, fun _ => rfl, fun w => absurd w h18, fun j q e _ => absurd ⟨j, q, e⟩ h18, fun w _ => absurd w h18⟩ (Or.inr ⟨_, rfl, dX11_given_22, Or.inl rfl⟩)
theorem fX11_answer_148 : Cond.fieldLink RX11 148 (TX11 11).1 (TX11 11).2.1 (TX11 11).2.2.1 ∈ wsX11_answer := List.mem_of_getElem? (i := 1) rfl
theorem iX11_answer_X11 : ∀ w ∈ wsX110, w ∈ wsX11_answer := by decide +kernel
theorem fX11_answer_24 : Cond.fieldLink RX11 24 (TX11 13).1 (TX11 13).2.1 (TX11 13).2.2.1 ∈ wsX11_answer := List.mem_of_getElem? (i := 2) rfl
set_option maxHeartbeats 4000000 in
set_option maxRecDepth 100000 in
theorem c_X11_answer {g : ww_G} {l : Launch} {rM : Nat} {rTh : Nat} {rTe : Nat} {rPu : Nat} {rWh : Nat} {rGi : Nat} {rDr : Nat} {rTr : Nat} {rKn : Nat} {rRo : Nat} {rTx : Nat} {tn : Nat} {n : Nat} {N : Nat} {sy : Nat} {ez : Nat} {la : Int32} {ma : Int32} {x : Int64} {md : Prop} {rws : Nat} {sz : Nat} {wh : Nat → Option Nat} {cc : Int32} (hn : (n = 4 ∧ N = 16) ∨ (n = 6 ∧ N = 36)) : CT g l yX11_answer wsX11_answer (ww_rm 3) [.ref rM, .int cc] ([(rM, .inr (12, [.int (nI tn), .int (nI n), .int (nI (n / 2)), .int (nI 2), .int (nI sy), .ref rTh, .int (nI ez), .int la, .int ma, .long x, .ref rTe, .int (bz md), .ref rPu, .ref rWh, .ref rGi, .ref rDr, .ref rTr, .ref rKn, .ref rRo, .int (nI rws), .int (nI sz), .ref rTx])), (rWh, .inl (g.2.1, 36, .inl (eb wh)))]) (S := Nat × Int32) (fun vv9 u => vv9 = some (.int u.2) ∧ (¬ (∃ j, j < N ∧ cc = nI j) → u.1 = 1) ∧ ((∃ j, j < N ∧ cc = nI j) → u.1 = 0) ∧ (∀ j, j < N → cc = nI j → md → u.2 = eo (wh j)) ∧ ((∃ j, j < N ∧ cc = nI j) → ¬ md → u.2 = -1)) (fun u => [(rM, .inr (12, [.int (nI u.1), .int (nI n), .int (nI (n / 2)), .int (nI 2), .int (nI sy), .ref rTh, .int (nI ez), .int la, .int ma, .long x, .ref rTe, .int (bz md), .ref rPu, .ref rWh, .ref rGi, .ref rDr, .ref rTr, .ref rKn, .ref rRo, .int (nI rws), .int (nI sz), .ref rTx])), (rWh, .inl (g.2.1, 36, .inl (eb wh)))]) := by
  refine CT.of cX11_answer 2 (some .int) RX11 (by decide +kernel) rfl rfl (Nat.le_of_ble_eq_true rfl) ?_
  intro X hg hl C hret
  subst hg; subst hl
  show RW X 0 0 0 [(0, .ref rM), (1, .int cc)] [] [(rM, .inr (12, [.int (nI tn), .int (nI n), .int (nI (n / 2)), .int (nI 2), .int (nI sy), .ref rTh, .int (nI ez), .int la, .int ma, .long x, .ref rTe, .int (bz md), .ref rPu, .ref rWh, .ref rGi, .ref rDr, .ref rTr, .ref rKn, .ref rRo, .int (nI rws), .int (nI sz), .ref rTx])), (rWh, .inl (X.1.2.1, 36, .inl (eb wh)))]
  refine r_aload_n C dX11_answer_0 0 rfl rfl ?_
  refine r_iconst C dX11_answer_1 (v := nI 1) (by decide) ?_
  refine r_aload_n C dX11_answer_2 0 rfl rfl ?_
  refine r_iload_n C dX11_answer_3 1 rfl rfl ?_
  refine r_callV0 (n := 1) (ws' := fun (u : Unit) => [(rM, .inr (12, [.int (nI tn), .int (nI n), .int (nI (n / 2)), .int (nI 2), .int (nI sy), .ref rTh, .int (nI ez), .int la, .int ma, .long x, .ref rTe, .int (bz md), .ref rPu, .ref rWh, .ref rGi, .ref rDr, .ref rTr, .ref rKn, .ref rRo, .int (nI rws), .int (nI sz), .ref rTx])), (rWh, .inl (X.1.2.1, 36, .inl (eb wh)))]) C dX11_answer_4 (c_X11_isCell (g := X.1) (l := X.2.2.1) (rM := rM) (rTh := rTh) (rTe := rTe) (rPu := rPu) (rWh := rWh) (rGi := rGi) (rDr := rDr) (rTr := rTr) (rKn := rKn) (rRo := rRo) (rTx := rTx) (tn := tn) (n := n) (N := N) (sy := sy) (ez := ez) (la := la) (ma := ma) (x := x) (md := md) (rws := rws) (sz := sz) (c := cc) (hn := (by first | assumption | omega))) gX11_answer_X11_isCell rfl (by decide +kernel) rfl ⟨Nat.le_of_ble_eq_true rfl, Nat.le_of_ble_eq_true rfl⟩ ⟨rfl, rfl⟩ ⟨Nat.zero_le _, Nat.zero_le _⟩ (rest := [.int (nI 1), .ref rM]) rfl (Nat.le_of_ble_eq_true rfl) 0 rfl rfl [0] (by decide) rfl (fun u => Eq.trans (b := [rM]) rfl rfl) (fun u => rfl) (fun v u hp => ?_)
  obtain rfl := hp
  show RW X 0 0 7 [(0, .ref rM), (1, .int cc)] [.int (bz (∃ j, j < N ∧ cc = nI j)), .int (nI 1), .ref rM] [(rM, .inr (12, [.int (nI tn), .int (nI n), .int (nI (n / 2)), .int (nI 2), .int (nI sy), .ref rTh, .int (nI ez), .int la, .int ma, .long x, .ref rTe, .int (bz md), .ref rPu, .ref rWh, .ref rGi, .ref rDr, .ref rTr, .ref rKn, .ref rRo, .int (nI rws), .int (nI sz), .ref rTx])), (rWh, .inl (X.1.2.1, 36, .inl (eb wh)))]
  refine r_if_ne (tgt := 14) C dX11_answer_7 (by decide) (fun h7 => ?_) (fun h7 => ?_)
  · have h7 : ∃ j, j < N ∧ cc = nI j := bz_n0.mp h7
    refine r_iconst C dX11_answer_14 (v := nI 0) (by decide) ?_
    refine r_top (y := bz (¬ (∃ j, j < N ∧ cc = nI j))) (bz_f (fun w => w h7)).symm ?_
    refine r_callV0 (n := 2) (ws' := fun (u : Unit) => [(rM, .inr (12, [.int (nI (thrF 1 (¬ (∃ j, j < N ∧ cc = nI j)))), .int (nI n), .int (nI (n / 2)), .int (nI 2), .int (nI sy), .ref rTh, .int (nI ez), .int la, .int ma, .long x, .ref rTe, .int (bz md), .ref rPu, .ref rWh, .ref rGi, .ref rDr, .ref rTr, .ref rKn, .ref rRo, .int (nI rws), .int (nI sz), .ref rTx])), (rWh, .inl (X.1.2.1, 36, .inl (eb wh)))]) C dX11_answer_15 (c_X11_throwsIf (g := X.1) (l := X.2.2.1) (rM := rM) (rTh := rTh) (rTe := rTe) (rPu := rPu) (rWh := rWh) (rGi := rGi) (rDr := rDr) (rTr := rTr) (rKn := rKn) (rRo := rRo) (rTx := rTx) (tn := tn) (n := n) (N := N) (sy := sy) (ez := ez) (la := la) (ma := ma) (x := x) (md := md) (rws := rws) (sz := sz) (k := 1) (E := ¬ (∃ j, j < N ∧ cc = nI j)) ) gX11_answer_X11_throwsIf rfl (by decide +kernel) rfl ⟨Nat.le_of_ble_eq_true rfl, Nat.le_of_ble_eq_true rfl⟩ ⟨rfl, rfl⟩ ⟨Nat.zero_le _, Nat.zero_le _⟩ (rest := []) rfl (Nat.le_of_ble_eq_true rfl) 0 rfl rfl [0] (by decide) rfl (fun u => Eq.trans (b := [rM]) rfl rfl) (fun u => rfl) (fun v u hp => ?_)
    obtain rfl := hp
    show RW X 0 0 18 [(0, .ref rM), (1, .int cc)] [.int (bz (¬ (∃ j, j < N ∧ cc = nI j)))] [(rM, .inr (12, [.int (nI (thrF 1 (¬ (∃ j, j < N ∧ cc = nI j)))), .int (nI n), .int (nI (n / 2)), .int (nI 2), .int (nI sy), .ref rTh, .int (nI ez), .int la, .int ma, .long x, .ref rTe, .int (bz md), .ref rPu, .ref rWh, .ref rGi, .ref rDr, .ref rTr, .ref rKn, .ref rRo, .int (nI rws), .int (nI sz), .ref rTx])), (rWh, .inl (X.1.2.1, 36, .inl (eb wh)))]
    refine r_if_eq (tgt := 23) C dX11_answer_18 (by decide) (fun h18 => ?_) (fun h18 => ?_)
    · have h18 : ¬ ((¬ (∃ j, j < N ∧ cc = nI j))) := bz_0.mp h18
      rw [thrF_f h18]
      obtain ⟨j, hj, rfl⟩ := h7
      refine r_aload_n C dX11_answer_23 0 rfl rfl ?_
      refine r_get C dX11_answer_24 iX11_answer_X11 11 fX11_answer_148 0 rfl rfl (by decide) rfl ?_
      refine r_if_eq (tgt := 39) C dX11_answer_27 (by decide) (fun h27 => ?_) (fun h27 => ?_)
      · have h27 : ¬ (md) := bz_0.mp h27
        refine r_iconst C dX11_answer_39 (v := (-1)) (by decide) ?_
        exact hret _ _ _ (0, (-1)) ⟨rfl, fun w => absurd ⟨j, hj, rfl⟩ w, fun _ => rfl, fun _ _ _ w => absurd w h27, fun _ _ => rfl⟩ (Or.inr ⟨_, rfl, dX11_answer_40, Or.inl rfl⟩)
      · have h27 : md := bz_n0.mp h27
        refine r_aload_n C dX11_answer_30 0 rfl rfl ?_
        refine r_get C dX11_answer_31 iX11_answer_X11 13 fX11_answer_24 0 rfl rfl (by decide) rfl ?_
        refine r_iload_n C dX11_answer_34 1 rfl rfl ?_
        refine r_iald C dX11_answer_35 1 rfl (by omega) (by omega) ?_
        refine r_goto (tgt := 40) C dX11_answer_36 (by decide) ?_
        exact hret _ _ _ (0, eo (wh j)) ⟨rfl, fun w => absurd ⟨j, hj, rfl⟩ w, fun _ => rfl, fun j2 q e _ => by
                  have a : j = j2 := (nI_eq (by omega) (by omega)).mp e
                  subst a; rfl, fun _ w => absurd h27 w⟩ (Or.inr ⟨_, rfl, dX11_answer_40, Or.inl rfl⟩)
    · have h18 : (¬ (∃ j, j < N ∧ cc = nI j)) := bz_n0.mp h18
      exact absurd h7 h18
  · have h7 : ¬ (∃ j, j < N ∧ cc = nI j) := bz_0.mp h7
    refine r_iconst C dX11_answer_10 (v := nI 1) (by decide) ?_
    refine r_goto (tgt := 15) C dX11_answer_11 (by decide) ?_
    refine r_top (y := bz (¬ (∃ j, j < N ∧ cc = nI j))) (bz_t h7).symm ?_
    refine r_callV0 (n := 2) (ws' := fun (u : Unit) => [(rM, .inr (12, [.int (nI (thrF 1 (¬ (∃ j, j < N ∧ cc = nI j)))), .int (nI n), .int (nI (n / 2)), .int (nI 2), .int (nI sy), .ref rTh, .int (nI ez), .int la, .int ma, .long x, .ref rTe, .int (bz md), .ref rPu, .ref rWh, .ref rGi, .ref rDr, .ref rTr, .ref rKn, .ref rRo, .int (nI rws), .int (nI sz), .ref rTx])), (rWh, .inl (X.1.2.1, 36, .inl (eb wh)))]) C dX11_answer_15 (c_X11_throwsIf (g := X.1) (l := X.2.2.1) (rM := rM) (rTh := rTh) (rTe := rTe) (rPu := rPu) (rWh := rWh) (rGi := rGi) (rDr := rDr) (rTr := rTr) (rKn := rKn) (rRo := rRo) (rTx := rTx) (tn := tn) (n := n) (N := N) (sy := sy) (ez := ez) (la := la) (ma := ma) (x := x) (md := md) (rws := rws) (sz := sz) (k := 1) (E := ¬ (∃ j, j < N ∧ cc = nI j)) ) gX11_answer_X11_throwsIf rfl (by decide +kernel) rfl ⟨Nat.le_of_ble_eq_true rfl, Nat.le_of_ble_eq_true rfl⟩ ⟨rfl, rfl⟩ ⟨Nat.zero_le _, Nat.zero_le _⟩ (rest := []) rfl (Nat.le_of_ble_eq_true rfl) 0 rfl rfl [0] (by decide) rfl (fun u => Eq.trans (b := [rM]) rfl rfl) (fun u => rfl) (fun v u hp => ?_)
    obtain rfl := hp
    show RW X 0 0 18 [(0, .ref rM), (1, .int cc)] [.int (bz (¬ (∃ j, j < N ∧ cc = nI j)))] [(rM, .inr (12, [.int (nI (thrF 1 (¬ (∃ j, j < N ∧ cc = nI j)))), .int (nI n), .int (nI (n / 2)), .int (nI 2), .int (nI sy), .ref rTh, .int (nI ez), .int la, .int ma, .long x, .ref rTe, .int (bz md), .ref rPu, .ref rWh, .ref rGi, .ref rDr, .ref rTr, .ref rKn, .ref rRo, .int (nI rws), .int (nI sz), .ref rTx])), (rWh, .inl (X.1.2.1, 36, .inl (eb wh)))]
    refine r_if_eq (tgt := 23) C dX11_answer_18 (by decide) (fun h18 => ?_) (fun h18 => ?_)
    · have h18 : ¬ ((¬ (∃ j, j < N ∧ cc = nI j))) := bz_0.mp h18
      exact absurd h7 h18
    · have h18 : (¬ (∃ j, j < N ∧ cc = nI j)) := bz_n0.mp h18
      rw [thrF_t h18]
      refine r_iconst C dX11_answer_21 (v := nI 0) (by decide) ?_
      exact hret _ _ _ (1, nI 0) ⟨rfl, fun _ => rfl, fun w => absurd w h18, fun j q e _ => absurd ⟨j, q, e⟩ h18, fun w _ => absurd w h18⟩ (Or.inr ⟨_, rfl, dX11_answer_22, Or.inl rfl⟩)
theorem fX11_told_54 : Cond.fieldLink RX11 54 (TX11 0).1 (TX11 0).2.1 (TX11 0).2.2.1 ∈ wsX11_told := List.mem_of_getElem? (i := 1) rfl
theorem iX11_told_X11 : ∀ w ∈ wsX110, w ∈ wsX11_told := by decide +kernel
theorem fX11_told_18 : Cond.fieldLink RX11 18 (TX11 10).1 (TX11 10).2.1 (TX11 10).2.2.1 ∈ wsX11_told := List.mem_of_getElem? (i := 2) rfl
set_option maxHeartbeats 4000000 in
set_option maxRecDepth 100000 in
theorem c_X11_told {g : ww_G} {l : Launch} {rM : Nat} {rTh : Nat} {rTe : Nat} {rPu : Nat} {rWh : Nat} {rGi : Nat} {rDr : Nat} {rTr : Nat} {rKn : Nat} {rRo : Nat} {rTx : Nat} {tn : Nat} {n : Nat} {N : Nat} {sy : Nat} {ez : Nat} {la : Int32} {ma : Int32} {x : Int64} {md : Prop} {rws : Nat} {sz : Nat} {te : Nat → Nat} {ww : Int32}  : CT g l yX11_told wsX11_told (ww_rm 1) [.ref rM, .int ww] ([(rM, .inr (12, [.int (nI tn), .int (nI n), .int (nI (n / 2)), .int (nI 2), .int (nI sy), .ref rTh, .int (nI ez), .int la, .int ma, .long x, .ref rTe, .int (bz md), .ref rPu, .ref rWh, .ref rGi, .ref rDr, .ref rTr, .ref rKn, .ref rRo, .int (nI rws), .int (nI sz), .ref rTx])), (rTe, .inl (g.2.1, 7, .inl (nO te)))]) (S := Int32) (fun vv9 u => vv9 = some (.int u) ∧ (∀ j, j < 7 → ww = nI j → u = nI (te j)) ∧ (¬ (∃ j, j < 7 ∧ ww = nI j) → u = -1)) (fun u => [(rM, .inr (12, [.int (nI 0), .int (nI n), .int (nI (n / 2)), .int (nI 2), .int (nI sy), .ref rTh, .int (nI ez), .int la, .int ma, .long x, .ref rTe, .int (bz md), .ref rPu, .ref rWh, .ref rGi, .ref rDr, .ref rTr, .ref rKn, .ref rRo, .int (nI rws), .int (nI sz), .ref rTx])), (rTe, .inl (g.2.1, 7, .inl (nO te)))]) := by
  refine CT.of cX11_told 2 (some .int) RX11 (by decide +kernel) rfl rfl (Nat.le_of_ble_eq_true rfl) ?_
  intro X hg hl C hret
  subst hg; subst hl
  show RW X 0 0 0 [(0, .ref rM), (1, .int ww)] [] [(rM, .inr (12, [.int (nI tn), .int (nI n), .int (nI (n / 2)), .int (nI 2), .int (nI sy), .ref rTh, .int (nI ez), .int la, .int ma, .long x, .ref rTe, .int (bz md), .ref rPu, .ref rWh, .ref rGi, .ref rDr, .ref rTr, .ref rKn, .ref rRo, .int (nI rws), .int (nI sz), .ref rTx])), (rTe, .inl (X.1.2.1, 7, .inl (nO te)))]
  refine r_aload_n C dX11_told_0 0 rfl rfl ?_
  refine r_iconst C dX11_told_1 (v := nI 0) (by decide) ?_
  refine r_put C dX11_told_2 iX11_told_X11 tyX11 tyX11_ok nmX11 0 fX11_told_54 0 rfl rfl (by decide) rfl rfl rfl rfl (Nat.le_of_ble_eq_true rfl) (ws' := [(rM, .inr (12, [.int (nI 0), .int (nI n), .int (nI (n / 2)), .int (nI 2), .int (nI sy), .ref rTh, .int (nI ez), .int la, .int ma, .long x, .ref rTe, .int (bz md), .ref rPu, .ref rWh, .ref rGi, .ref rDr, .ref rTr, .ref rKn, .ref rRo, .int (nI rws), .int (nI sz), .ref rTx])), (rTe, .inl (X.1.2.1, 7, .inl (nO te)))]) rfl ?_
  refine r_iload_n C dX11_told_5 1 rfl rfl ?_
  refine r_if_lt (tgt := 15) C dX11_told_6 (by decide) (fun h6 => ?_) (fun h6 => ?_)
  · refine r_iconst C dX11_told_15 (v := (-1)) (by decide) ?_
    refine r_goto (tgt := 25) C dX11_told_16 (by decide) ?_
    exact hret _ _ _ ((-1)) ⟨rfl, fun j q e => absurd ⟨j, q, e⟩ (rg_lo (M := 7) (by omega) h6), fun _ => rfl⟩ (Or.inr ⟨_, rfl, dX11_told_25, Or.inl rfl⟩)
  · refine r_iload_n C dX11_told_9 1 rfl rfl ?_
    refine r_bipush C dX11_told_10 (v := nI 6) (by decide) ?_
    refine r_icmp_le (tgt := 19) C dX11_told_12 (by decide) (fun h12 => ?_) (fun h12 => ?_)
    · obtain ⟨j, hj, rfl⟩ := rg_in (m := 6) (by omega) h6 h12
      refine r_aload_n C dX11_told_19 0 rfl rfl ?_
      refine r_get C dX11_told_20 iX11_told_X11 10 fX11_told_18 0 rfl rfl (by decide) rfl ?_
      refine r_iload_n C dX11_told_23 1 rfl rfl ?_
      refine r_iald C dX11_told_24 1 rfl (by omega) (by omega) ?_
      show RW X 0 0 25 [(0, .ref rM), (1, .int (nI j))] [.int (nI (te j))] [(rM, .inr (12, [.int (nI 0), .int (nI n), .int (nI (n / 2)), .int (nI 2), .int (nI sy), .ref rTh, .int (nI ez), .int la, .int ma, .long x, .ref rTe, .int (bz md), .ref rPu, .ref rWh, .ref rGi, .ref rDr, .ref rTr, .ref rKn, .ref rRo, .int (nI rws), .int (nI sz), .ref rTx])), (rTe, .inl (X.1.2.1, 7, .inl (nO te)))]
      exact hret _ _ _ (nI (te j)) ⟨rfl, fun j2 q e => by
              have a : j = j2 := (nI_eq (by omega) (by omega)).mp e
              subst a; rfl, fun w => absurd ⟨j, by omega, rfl⟩ w⟩ (Or.inr ⟨_, rfl, dX11_told_25, Or.inl rfl⟩)
    · refine r_iconst C dX11_told_15 (v := (-1)) (by decide) ?_
      refine r_goto (tgt := 25) C dX11_told_16 (by decide) ?_
      exact hret _ _ _ ((-1)) ⟨rfl, fun j q e => absurd ⟨j, q, e⟩ (rg_hi (m := 6) (by omega) h12), fun _ => rfl⟩ (Or.inr ⟨_, rfl, dX11_told_25, Or.inl rfl⟩)
theorem fX11_left_54 : Cond.fieldLink RX11 54 (TX11 0).1 (TX11 0).2.1 (TX11 0).2.2.1 ∈ wsX11_left := List.mem_of_getElem? (i := 1) rfl
theorem iX11_left_X11 : ∀ w ∈ wsX110, w ∈ wsX11_left := by decide +kernel
theorem fX11_left_148 : Cond.fieldLink RX11 148 (TX11 11).1 (TX11 11).2.1 (TX11 11).2.2.1 ∈ wsX11_left := List.mem_of_getElem? (i := 2) rfl
set_option maxHeartbeats 4000000 in
set_option maxRecDepth 100000 in
theorem c_X11_left {g : ww_G} {l : Launch} {rM : Nat} {rTh : Nat} {rTe : Nat} {rPu : Nat} {rWh : Nat} {rGi : Nat} {rDr : Nat} {rTr : Nat} {rKn : Nat} {rRo : Nat} {rTx : Nat} {tn : Nat} {n : Nat} {N : Nat} {sy : Nat} {ez : Nat} {la : Int32} {ma : Int32} {x : Int64} {md : Prop} {rws : Nat} {sz : Nat} {A : Nat → Nat} {gi : Nat → Option Nat} {pu : Nat → Option Nat} {kn : Nat → Option Nat} (hn : (n = 4 ∧ N = 16) ∨ (n = 6 ∧ N = 36)) (hA : md → fulA n N A ∧ subA N pu A) (hvg : (∀ c v, gi c = some v → v < n)) (hvp : md → (∀ c v, pu c = some v → v < n)) : CT g l yX11_left wsX11_left (ww_rm 6) [.ref rM] ([(rM, .inr (12, [.int (nI tn), .int (nI n), .int (nI (n / 2)), .int (nI 2), .int (nI sy), .ref rTh, .int (nI ez), .int la, .int ma, .long x, .ref rTe, .int (bz md), .ref rPu, .ref rWh, .ref rGi, .ref rDr, .ref rTr, .ref rKn, .ref rRo, .int (nI rws), .int (nI sz), .ref rTx])), (rGi, .inl (g.2.1, 36, .inl (eb gi))), (rPu, .inl (g.2.1, 36, .inl (eb pu))), (rKn, .inl (g.2.1, 36, .inl (eb kn)))]) (S := Int32 × (Nat → Option Nat) × (Nat → Option Nat)) (fun vv9 u => vv9 = some (.int u.1) ∧ (md → u.1 = nI (leftN n N A pu)) ∧ (¬ md → u.1 = -1) ∧ ((∀ c v, u.2.1 c = some v → v < n))) (fun u => [(rM, .inr (12, [.int (nI 0), .int (nI n), .int (nI (n / 2)), .int (nI 2), .int (nI sy), .ref rTh, .int (nI ez), .int la, .int ma, .long x, .ref rTe, .int (bz md), .ref rPu, .ref rWh, .ref rGi, .ref rDr, .ref rTr, .ref rKn, .ref rRo, .int (nI rws), .int (nI sz), .ref rTx])), (rGi, .inl (g.2.1, 36, .inl (eb u.2.1))), (rPu, .inl (g.2.1, 36, .inl (eb pu))), (rKn, .inl (g.2.1, 36, .inl (eb u.2.2)))]) := by
  refine CT.of cX11_left 1 (some .int) RX11 (by decide +kernel) rfl rfl (Nat.le_of_ble_eq_true rfl) ?_
  intro X hg hl C hret
  subst hg; subst hl
  show RW X 0 0 0 [(0, .ref rM)] [] [(rM, .inr (12, [.int (nI tn), .int (nI n), .int (nI (n / 2)), .int (nI 2), .int (nI sy), .ref rTh, .int (nI ez), .int la, .int ma, .long x, .ref rTe, .int (bz md), .ref rPu, .ref rWh, .ref rGi, .ref rDr, .ref rTr, .ref rKn, .ref rRo, .int (nI rws), .int (nI sz), .ref rTx])), (rGi, .inl (X.1.2.1, 36, .inl (eb gi))), (rPu, .inl (X.1.2.1, 36, .inl (eb pu))), (rKn, .inl (X.1.2.1, 36, .inl (eb kn)))]
  refine r_aload_n C dX11_left_0 0 rfl rfl ?_
  refine r_iconst C dX11_left_1 (v := nI 0) (by decide) ?_
  refine r_put C dX11_left_2 iX11_left_X11 tyX11 tyX11_ok nmX11 0 fX11_left_54 0 rfl rfl (by decide) rfl rfl rfl rfl (Nat.le_of_ble_eq_true rfl) (ws' := [(rM, .inr (12, [.int (nI 0), .int (nI n), .int (nI (n / 2)), .int (nI 2), .int (nI sy), .ref rTh, .int (nI ez), .int la, .int ma, .long x, .ref rTe, .int (bz md), .ref rPu, .ref rWh, .ref rGi, .ref rDr, .ref rTr, .ref rKn, .ref rRo, .int (nI rws), .int (nI sz), .ref rTx])), (rGi, .inl (X.1.2.1, 36, .inl (eb gi))), (rPu, .inl (X.1.2.1, 36, .inl (eb pu))), (rKn, .inl (X.1.2.1, 36, .inl (eb kn)))]) rfl ?_
  refine r_aload_n C dX11_left_5 0 rfl rfl ?_
  refine r_get C dX11_left_6 iX11_left_X11 11 fX11_left_148 0 rfl rfl (by decide) rfl ?_
  refine r_if_ne (tgt := 14) C dX11_left_9 (by decide) (fun h9 => ?_) (fun h9 => ?_)
  · have h9 : md := bz_n0.mp h9
    refine r_aload_n C dX11_left_14 0 rfl rfl ?_
    refine r_callV0 (n := 0) (ws' := fun (u : Unit) => [(rM, .inr (12, [.int (nI 0), .int (nI n), .int (nI (n / 2)), .int (nI 2), .int (nI sy), .ref rTh, .int (nI ez), .int la, .int ma, .long x, .ref rTe, .int (bz md), .ref rPu, .ref rWh, .ref rGi, .ref rDr, .ref rTr, .ref rKn, .ref rRo, .int (nI rws), .int (nI sz), .ref rTx])), (rGi, .inl (X.1.2.1, 36, .inl (eb pu))), (rPu, .inl (X.1.2.1, 36, .inl (eb pu))), (rKn, .inl (X.1.2.1, 36, .inl (eb kn)))]) C dX11_left_15 (c_X11_take (g := X.1) (l := X.2.2.1) (rM := rM) (rTh := rTh) (rTe := rTe) (rPu := rPu) (rWh := rWh) (rGi := rGi) (rDr := rDr) (rTr := rTr) (rKn := rKn) (rRo := rRo) (rTx := rTx) (tn := 0) (n := n) (N := N) (sy := sy) (ez := ez) (la := la) (ma := ma) (x := x) (md := md) (rws := rws) (sz := sz) (gi := gi) (pu := pu) ) gX11_left_X11_take rfl (by decide +kernel) rfl ⟨Nat.le_of_ble_eq_true rfl, Nat.le_of_ble_eq_true rfl⟩ ⟨rfl, rfl⟩ ⟨Nat.zero_le _, Nat.zero_le _⟩ (rest := []) rfl (Nat.le_of_ble_eq_true rfl) 0 rfl rfl [0, 1, 2] (by decide) rfl (fun u => Eq.trans (b := [rM, rGi, rPu]) rfl rfl) (fun u => rfl) (fun v u hp => ?_)
    obtain rfl := hp
    show RW X 0 0 18 [(0, .ref rM)] [] [(rM, .inr (12, [.int (nI 0), .int (nI n), .int (nI (n / 2)), .int (nI 2), .int (nI sy), .ref rTh, .int (nI ez), .int la, .int ma, .long x, .ref rTe, .int (bz md), .ref rPu, .ref rWh, .ref rGi, .ref rDr, .ref rTr, .ref rKn, .ref rRo, .int (nI rws), .int (nI sz), .ref rTx])), (rGi, .inl (X.1.2.1, 36, .inl (eb pu))), (rPu, .inl (X.1.2.1, 36, .inl (eb pu))), (rKn, .inl (X.1.2.1, 36, .inl (eb kn)))]
    refine r_aload_n C dX11_left_18 0 rfl rfl ?_
    refine r_callV0 (n := 0) (ws' := fun (u : (Nat → Option Nat)) => [(rM, .inr (12, [.int (nI 0), .int (nI n), .int (nI (n / 2)), .int (nI 2), .int (nI sy), .ref rTh, .int (nI ez), .int la, .int ma, .long x, .ref rTe, .int (bz md), .ref rPu, .ref rWh, .ref rGi, .ref rDr, .ref rTr, .ref rKn, .ref rRo, .int (nI rws), .int (nI sz), .ref rTx])), (rGi, .inl (X.1.2.1, 36, .inl (eb pu))), (rPu, .inl (X.1.2.1, 36, .inl (eb pu))), (rKn, .inl (X.1.2.1, 36, .inl (eb u)))]) C dX11_left_19 (c_X11_countLeft (g := X.1) (l := X.2.2.1) (rM := rM) (rTh := rTh) (rTe := rTe) (rPu := rPu) (rWh := rWh) (rGi := rGi) (rDr := rDr) (rTr := rTr) (rKn := rKn) (rRo := rRo) (rTx := rTx) (tn := 0) (n := n) (N := N) (sy := sy) (ez := ez) (la := la) (ma := ma) (x := x) (md := md) (rws := rws) (sz := sz) (A := A) (gi := pu) (kn := kn) (hn := (by first | assumption | omega)) (hA := ((hA h9).1)) (hsub := ((hA h9).2))) gX11_left_X11_countLeft rfl (by decide +kernel) rfl ⟨Nat.le_of_ble_eq_true rfl, Nat.le_of_ble_eq_true rfl⟩ ⟨rfl, rfl⟩ ⟨Nat.zero_le _, Nat.zero_le _⟩ (rest := []) rfl (Nat.le_of_ble_eq_true rfl) 0 rfl rfl [0, 1, 3] (by decide) rfl (fun u => Eq.trans (b := [rM, rGi, rKn]) rfl rfl) (fun u => rfl) (fun v u hp => ?_)
    obtain ⟨k5, rfl⟩ : ∃ z, z = u := ⟨_, rfl⟩
    obtain rfl := hp
    show RW X 0 0 22 [(0, .ref rM)] [.int (nI (leftN n N A pu))] [(rM, .inr (12, [.int (nI 0), .int (nI n), .int (nI (n / 2)), .int (nI 2), .int (nI sy), .ref rTh, .int (nI ez), .int la, .int ma, .long x, .ref rTe, .int (bz md), .ref rPu, .ref rWh, .ref rGi, .ref rDr, .ref rTr, .ref rKn, .ref rRo, .int (nI rws), .int (nI sz), .ref rTx])), (rGi, .inl (X.1.2.1, 36, .inl (eb pu))), (rPu, .inl (X.1.2.1, 36, .inl (eb pu))), (rKn, .inl (X.1.2.1, 36, .inl (eb k5)))]
    exact hret _ _ _ (nI (leftN n N A pu), pu, k5) ⟨rfl, fun _ => rfl, fun w => absurd h9 w, hvp h9⟩ (Or.inr ⟨_, rfl, dX11_left_22, Or.inl rfl⟩)
  · have h9 : ¬ (md) := bz_0.mp h9
    refine r_iconst C dX11_left_12 (v := (-1)) (by decide) ?_
    exact hret _ _ _ ((-1), gi, kn) ⟨rfl, fun w => absurd w h9, fun _ => rfl, hvg⟩ (Or.inr ⟨_, rfl, dX11_left_13, Or.inl rfl⟩)
theorem fX11_needed_148 : Cond.fieldLink RX11 148 (TX11 11).1 (TX11 11).2.1 (TX11 11).2.2.1 ∈ wsX11_needed := List.mem_of_getElem? (i := 1) rfl
theorem iX11_needed_X11 : ∀ w ∈ wsX110, w ∈ wsX11_needed := by decide +kernel
set_option maxHeartbeats 4000000 in
set_option maxRecDepth 100000 in
theorem c_X11_needed {g : ww_G} {l : Launch} {rM : Nat} {rTh : Nat} {rTe : Nat} {rPu : Nat} {rWh : Nat} {rGi : Nat} {rDr : Nat} {rTr : Nat} {rKn : Nat} {rRo : Nat} {rTx : Nat} {tn : Nat} {n : Nat} {N : Nat} {sy : Nat} {ez : Nat} {la : Int32} {ma : Int32} {x : Int64} {md : Prop} {rws : Nat} {sz : Nat} {pu : Nat → Option Nat} {gi : Nat → Option Nat} {tr : Nat → Option Nat} {cc : Int32} (hn : (n = 4 ∧ N = 16) ∨ (n = 6 ∧ N = 36)) (hsy : sy < 4) (hvg : (∀ c v, gi c = some v → v < n)) (hvt : (∀ c v, tr c = some v → v < n)) (hvp0 : md → (∀ c v, pu c = some v → v < n)) : CT g l yX11_needed wsX11_needed (ww_rm 5) [.ref rM, .int cc] ([(rM, .inr (12, [.int (nI tn), .int (nI n), .int (nI (n / 2)), .int (nI 2), .int (nI sy), .ref rTh, .int (nI ez), .int la, .int ma, .long x, .ref rTe, .int (bz md), .ref rPu, .ref rWh, .ref rGi, .ref rDr, .ref rTr, .ref rKn, .ref rRo, .int (nI rws), .int (nI sz), .ref rTx])), (rGi, .inl (g.2.1, 36, .inl (eb gi))), (rPu, .inl (g.2.1, 36, .inl (eb pu))), (rTr, .inl (g.2.1, 36, .inl (eb tr)))]) (S := Nat × (Nat → Option Nat) × (Nat → Option Nat)) (fun vv9 u => vv9 = some (.int (bz (∃ j0, j0 < N ∧ cc = nI j0 ∧ md ∧ needP n N (lfS n sy) (lfS n sy j0) pu))) ∧ (¬ (∃ j, j < N ∧ cc = nI j) → u.1 = 1) ∧ ((∃ j, j < N ∧ cc = nI j) → u.1 = 0) ∧ ((∀ c v, u.2.1 c = some v → v < n)) ∧ ((∀ c v, u.2.2 c = some v → v < n))) (fun u => [(rM, .inr (12, [.int (nI u.1), .int (nI n), .int (nI (n / 2)), .int (nI 2), .int (nI sy), .ref rTh, .int (nI ez), .int la, .int ma, .long x, .ref rTe, .int (bz md), .ref rPu, .ref rWh, .ref rGi, .ref rDr, .ref rTr, .ref rKn, .ref rRo, .int (nI rws), .int (nI sz), .ref rTx])), (rGi, .inl (g.2.1, 36, .inl (eb u.2.1))), (rPu, .inl (g.2.1, 36, .inl (eb pu))), (rTr, .inl (g.2.1, 36, .inl (eb u.2.2)))]) := by
  refine CT.of cX11_needed 3 (some .boolean) RX11 (by decide +kernel) rfl rfl (Nat.le_of_ble_eq_true rfl) ?_
  intro X hg hl C hret
  subst hg; subst hl
  show RW X 0 0 0 [(0, .ref rM), (1, .int cc)] [] [(rM, .inr (12, [.int (nI tn), .int (nI n), .int (nI (n / 2)), .int (nI 2), .int (nI sy), .ref rTh, .int (nI ez), .int la, .int ma, .long x, .ref rTe, .int (bz md), .ref rPu, .ref rWh, .ref rGi, .ref rDr, .ref rTr, .ref rKn, .ref rRo, .int (nI rws), .int (nI sz), .ref rTx])), (rGi, .inl (X.1.2.1, 36, .inl (eb gi))), (rPu, .inl (X.1.2.1, 36, .inl (eb pu))), (rTr, .inl (X.1.2.1, 36, .inl (eb tr)))]
  refine r_aload_n C dX11_needed_0 0 rfl rfl ?_
  refine r_iconst C dX11_needed_1 (v := nI 1) (by decide) ?_
  refine r_aload_n C dX11_needed_2 0 rfl rfl ?_
  refine r_iload_n C dX11_needed_3 1 rfl rfl ?_
  refine r_callV0 (n := 1) (ws' := fun (u : Unit) => [(rM, .inr (12, [.int (nI tn), .int (nI n), .int (nI (n / 2)), .int (nI 2), .int (nI sy), .ref rTh, .int (nI ez), .int la, .int ma, .long x, .ref rTe, .int (bz md), .ref rPu, .ref rWh, .ref rGi, .ref rDr, .ref rTr, .ref rKn, .ref rRo, .int (nI rws), .int (nI sz), .ref rTx])), (rGi, .inl (X.1.2.1, 36, .inl (eb gi))), (rPu, .inl (X.1.2.1, 36, .inl (eb pu))), (rTr, .inl (X.1.2.1, 36, .inl (eb tr)))]) C dX11_needed_4 (c_X11_isCell (g := X.1) (l := X.2.2.1) (rM := rM) (rTh := rTh) (rTe := rTe) (rPu := rPu) (rWh := rWh) (rGi := rGi) (rDr := rDr) (rTr := rTr) (rKn := rKn) (rRo := rRo) (rTx := rTx) (tn := tn) (n := n) (N := N) (sy := sy) (ez := ez) (la := la) (ma := ma) (x := x) (md := md) (rws := rws) (sz := sz) (c := cc) (hn := (by first | assumption | omega))) gX11_needed_X11_isCell rfl (by decide +kernel) rfl ⟨Nat.le_of_ble_eq_true rfl, Nat.le_of_ble_eq_true rfl⟩ ⟨rfl, rfl⟩ ⟨Nat.zero_le _, Nat.zero_le _⟩ (rest := [.int (nI 1), .ref rM]) rfl (Nat.le_of_ble_eq_true rfl) 0 rfl rfl [0] (by decide) rfl (fun u => Eq.trans (b := [rM]) rfl rfl) (fun u => rfl) (fun v u hp => ?_)
  obtain rfl := hp
  show RW X 0 0 7 [(0, .ref rM), (1, .int cc)] [.int (bz (∃ j, j < N ∧ cc = nI j)), .int (nI 1), .ref rM] [(rM, .inr (12, [.int (nI tn), .int (nI n), .int (nI (n / 2)), .int (nI 2), .int (nI sy), .ref rTh, .int (nI ez), .int la, .int ma, .long x, .ref rTe, .int (bz md), .ref rPu, .ref rWh, .ref rGi, .ref rDr, .ref rTr, .ref rKn, .ref rRo, .int (nI rws), .int (nI sz), .ref rTx])), (rGi, .inl (X.1.2.1, 36, .inl (eb gi))), (rPu, .inl (X.1.2.1, 36, .inl (eb pu))), (rTr, .inl (X.1.2.1, 36, .inl (eb tr)))]
  refine r_if_ne (tgt := 14) C dX11_needed_7 (by decide) (fun h7 => ?_) (fun h7 => ?_)
  · have h7 : ∃ j, j < N ∧ cc = nI j := bz_n0.mp h7
    refine r_iconst C dX11_needed_14 (v := nI 0) (by decide) ?_
    refine r_top (y := bz (¬ (∃ j, j < N ∧ cc = nI j))) (bz_f (fun w => w h7)).symm ?_
    refine r_callV0 (n := 2) (ws' := fun (u : Unit) => [(rM, .inr (12, [.int (nI (thrF 1 (¬ (∃ j, j < N ∧ cc = nI j)))), .int (nI n), .int (nI (n / 2)), .int (nI 2), .int (nI sy), .ref rTh, .int (nI ez), .int la, .int ma, .long x, .ref rTe, .int (bz md), .ref rPu, .ref rWh, .ref rGi, .ref rDr, .ref rTr, .ref rKn, .ref rRo, .int (nI rws), .int (nI sz), .ref rTx])), (rGi, .inl (X.1.2.1, 36, .inl (eb gi))), (rPu, .inl (X.1.2.1, 36, .inl (eb pu))), (rTr, .inl (X.1.2.1, 36, .inl (eb tr)))]) C dX11_needed_15 (c_X11_throwsIf (g := X.1) (l := X.2.2.1) (rM := rM) (rTh := rTh) (rTe := rTe) (rPu := rPu) (rWh := rWh) (rGi := rGi) (rDr := rDr) (rTr := rTr) (rKn := rKn) (rRo := rRo) (rTx := rTx) (tn := tn) (n := n) (N := N) (sy := sy) (ez := ez) (la := la) (ma := ma) (x := x) (md := md) (rws := rws) (sz := sz) (k := 1) (E := ¬ (∃ j, j < N ∧ cc = nI j)) ) gX11_needed_X11_throwsIf rfl (by decide +kernel) rfl ⟨Nat.le_of_ble_eq_true rfl, Nat.le_of_ble_eq_true rfl⟩ ⟨rfl, rfl⟩ ⟨Nat.zero_le _, Nat.zero_le _⟩ (rest := []) rfl (Nat.le_of_ble_eq_true rfl) 0 rfl rfl [0] (by decide) rfl (fun u => Eq.trans (b := [rM]) rfl rfl) (fun u => rfl) (fun v u hp => ?_)
    obtain rfl := hp
    show RW X 0 0 18 [(0, .ref rM), (1, .int cc)] [.int (bz (¬ (∃ j, j < N ∧ cc = nI j)))] [(rM, .inr (12, [.int (nI (thrF 1 (¬ (∃ j, j < N ∧ cc = nI j)))), .int (nI n), .int (nI (n / 2)), .int (nI 2), .int (nI sy), .ref rTh, .int (nI ez), .int la, .int ma, .long x, .ref rTe, .int (bz md), .ref rPu, .ref rWh, .ref rGi, .ref rDr, .ref rTr, .ref rKn, .ref rRo, .int (nI rws), .int (nI sz), .ref rTx])), (rGi, .inl (X.1.2.1, 36, .inl (eb gi))), (rPu, .inl (X.1.2.1, 36, .inl (eb pu))), (rTr, .inl (X.1.2.1, 36, .inl (eb tr)))]
    refine r_if_ne (tgt := 28) C dX11_needed_18 (by decide) (fun h18 => ?_) (fun h18 => ?_)
    · have h18 : (¬ (∃ j, j < N ∧ cc = nI j)) := bz_n0.mp h18
      exact absurd h7 h18
    · have h18 : ¬ ((¬ (∃ j, j < N ∧ cc = nI j))) := bz_0.mp h18
      rw [thrF_f h18]
      refine r_aload_n C dX11_needed_21 0 rfl rfl ?_
      refine r_get C dX11_needed_22 iX11_needed_X11 11 fX11_needed_148 0 rfl rfl (by decide) rfl ?_
      refine r_if_ne (tgt := 30) C dX11_needed_25 (by decide) (fun h25 => ?_) (fun h25 => ?_)
      · have h25 : md := bz_n0.mp h25
        obtain ⟨j, hj, rfl⟩ := h7
        have hvp := hvp0 h25
        refine r_aload_n C dX11_needed_30 0 rfl rfl ?_
        refine r_callV0 (n := 0) (ws' := fun (u : Unit) => [(rM, .inr (12, [.int (nI 0), .int (nI n), .int (nI (n / 2)), .int (nI 2), .int (nI sy), .ref rTh, .int (nI ez), .int la, .int ma, .long x, .ref rTe, .int (bz md), .ref rPu, .ref rWh, .ref rGi, .ref rDr, .ref rTr, .ref rKn, .ref rRo, .int (nI rws), .int (nI sz), .ref rTx])), (rGi, .inl (X.1.2.1, 36, .inl (eb pu))), (rPu, .inl (X.1.2.1, 36, .inl (eb pu))), (rTr, .inl (X.1.2.1, 36, .inl (eb tr)))]) C dX11_needed_31 (c_X11_take (g := X.1) (l := X.2.2.1) (rM := rM) (rTh := rTh) (rTe := rTe) (rPu := rPu) (rWh := rWh) (rGi := rGi) (rDr := rDr) (rTr := rTr) (rKn := rKn) (rRo := rRo) (rTx := rTx) (tn := 0) (n := n) (N := N) (sy := sy) (ez := ez) (la := la) (ma := ma) (x := x) (md := md) (rws := rws) (sz := sz) (gi := gi) (pu := pu) ) gX11_needed_X11_take rfl (by decide +kernel) rfl ⟨Nat.le_of_ble_eq_true rfl, Nat.le_of_ble_eq_true rfl⟩ ⟨rfl, rfl⟩ ⟨Nat.zero_le _, Nat.zero_le _⟩ (rest := []) rfl (Nat.le_of_ble_eq_true rfl) 0 rfl rfl [0, 1, 2] (by decide) rfl (fun u => Eq.trans (b := [rM, rGi, rPu]) rfl rfl) (fun u => rfl) (fun v u hp => ?_)
        obtain rfl := hp
        show RW X 0 0 34 [(0, .ref rM), (1, .int (nI j))] [] [(rM, .inr (12, [.int (nI 0), .int (nI n), .int (nI (n / 2)), .int (nI 2), .int (nI sy), .ref rTh, .int (nI ez), .int la, .int ma, .long x, .ref rTe, .int (bz md), .ref rPu, .ref rWh, .ref rGi, .ref rDr, .ref rTr, .ref rKn, .ref rRo, .int (nI rws), .int (nI sz), .ref rTx])), (rGi, .inl (X.1.2.1, 36, .inl (eb pu))), (rPu, .inl (X.1.2.1, 36, .inl (eb pu))), (rTr, .inl (X.1.2.1, 36, .inl (eb tr)))]
        refine r_aload_n C dX11_needed_34 0 rfl rfl ?_
        refine r_callV0 (n := 0) (ws' := fun (u : Unit) => [(rM, .inr (12, [.int (nI 0), .int (nI n), .int (nI (n / 2)), .int (nI 2), .int (nI sy), .ref rTh, .int (nI ez), .int la, .int ma, .long x, .ref rTe, .int (bz md), .ref rPu, .ref rWh, .ref rGi, .ref rDr, .ref rTr, .ref rKn, .ref rRo, .int (nI rws), .int (nI sz), .ref rTx])), (rGi, .inl (X.1.2.1, 36, .inl (eb pu))), (rPu, .inl (X.1.2.1, 36, .inl (eb pu))), (rTr, .inl (X.1.2.1, 36, .inl (eb tr)))]) C dX11_needed_35 (c_X11_countGivens (g := X.1) (l := X.2.2.1) (rM := rM) (rTh := rTh) (rTe := rTe) (rPu := rPu) (rWh := rWh) (rGi := rGi) (rDr := rDr) (rTr := rTr) (rKn := rKn) (rRo := rRo) (rTx := rTx) (tn := 0) (n := n) (N := N) (sy := sy) (ez := ez) (la := la) (ma := ma) (x := x) (md := md) (rws := rws) (sz := sz) (gi := pu) (hn := (by first | assumption | omega)) (hk := hvp)) gX11_needed_X11_countGivens rfl (by decide +kernel) rfl ⟨Nat.le_of_ble_eq_true rfl, Nat.le_of_ble_eq_true rfl⟩ ⟨rfl, rfl⟩ ⟨Nat.zero_le _, Nat.zero_le _⟩ (rest := []) rfl (Nat.le_of_ble_eq_true rfl) 0 rfl rfl [0, 1] (by decide) rfl (fun u => Eq.trans (b := [rM, rGi]) rfl rfl) (fun u => rfl) (fun v u hp => ?_)
        obtain rfl := hp
        show RW X 0 0 38 [(0, .ref rM), (1, .int (nI j))] [.int (nI (fil N pu))] [(rM, .inr (12, [.int (nI 0), .int (nI n), .int (nI (n / 2)), .int (nI 2), .int (nI sy), .ref rTh, .int (nI ez), .int la, .int ma, .long x, .ref rTe, .int (bz md), .ref rPu, .ref rWh, .ref rGi, .ref rDr, .ref rTr, .ref rKn, .ref rRo, .int (nI rws), .int (nI sz), .ref rTx])), (rGi, .inl (X.1.2.1, 36, .inl (eb pu))), (rPu, .inl (X.1.2.1, 36, .inl (eb pu))), (rTr, .inl (X.1.2.1, 36, .inl (eb tr)))]
        have hf0 := fil_le N pu
        refine r_istore_n C dX11_needed_38 rfl (by decide) [1, 2, 0] (lv' := [(0, .ref rM), (1, .int (nI j)), (2, .int (nI (fil N pu)))]) rfl ?_
        refine r_aload_n C dX11_needed_39 0 rfl rfl ?_
        refine r_aload_n C dX11_needed_40 0 rfl rfl ?_
        refine r_iload_n C dX11_needed_41 1 rfl rfl ?_
        refine r_callV0 (n := 1) (ws' := fun (u : Unit) => [(rM, .inr (12, [.int (nI 0), .int (nI n), .int (nI (n / 2)), .int (nI 2), .int (nI sy), .ref rTh, .int (nI ez), .int la, .int ma, .long x, .ref rTe, .int (bz md), .ref rPu, .ref rWh, .ref rGi, .ref rDr, .ref rTr, .ref rKn, .ref rRo, .int (nI rws), .int (nI sz), .ref rTx])), (rGi, .inl (X.1.2.1, 36, .inl (eb pu))), (rPu, .inl (X.1.2.1, 36, .inl (eb pu))), (rTr, .inl (X.1.2.1, 36, .inl (eb tr)))]) C dX11_needed_42 (c_X11_leastOf (g := X.1) (l := X.2.2.1) (rM := rM) (rTh := rTh) (rTe := rTe) (rPu := rPu) (rWh := rWh) (rGi := rGi) (rDr := rDr) (rTr := rTr) (rKn := rKn) (rRo := rRo) (rTx := rTx) (tn := 0) (n := n) (N := N) (sy := sy) (ez := ez) (la := la) (ma := ma) (x := x) (md := md) (rws := rws) (sz := sz) (c := j) (hn := (by first | assumption | omega)) (hsy := (by first | assumption | omega)) (hc := hj)) gX11_needed_X11_leastOf rfl (by decide +kernel) rfl ⟨Nat.le_of_ble_eq_true rfl, Nat.le_of_ble_eq_true rfl⟩ ⟨rfl, rfl⟩ ⟨Nat.zero_le _, Nat.zero_le _⟩ (rest := [.ref rM]) rfl (Nat.le_of_ble_eq_true rfl) 0 rfl rfl [0] (by decide) rfl (fun u => Eq.trans (b := [rM]) rfl rfl) (fun u => rfl) (fun v u hp => ?_)
        obtain rfl := hp
        show RW X 0 0 45 [(0, .ref rM), (1, .int (nI j)), (2, .int (nI (fil N pu)))] [.int (nI (lfS n sy j)), .ref rM] [(rM, .inr (12, [.int (nI 0), .int (nI n), .int (nI (n / 2)), .int (nI 2), .int (nI sy), .ref rTh, .int (nI ez), .int la, .int ma, .long x, .ref rTe, .int (bz md), .ref rPu, .ref rWh, .ref rGi, .ref rDr, .ref rTr, .ref rKn, .ref rRo, .int (nI rws), .int (nI sz), .ref rTx])), (rGi, .inl (X.1.2.1, 36, .inl (eb pu))), (rPu, .inl (X.1.2.1, 36, .inl (eb pu))), (rTr, .inl (X.1.2.1, 36, .inl (eb tr)))]
        refine r_callV0 (n := 1) (ws' := fun (u : (Nat → Option Nat)) => [(rM, .inr (12, [.int (nI 0), .int (nI n), .int (nI (n / 2)), .int (nI 2), .int (nI sy), .ref rTh, .int (nI ez), .int la, .int ma, .long x, .ref rTe, .int (bz md), .ref rPu, .ref rWh, .ref rGi, .ref rDr, .ref rTr, .ref rKn, .ref rRo, .int (nI rws), .int (nI sz), .ref rTx])), (rGi, .inl (X.1.2.1, 36, .inl (eb u))), (rPu, .inl (X.1.2.1, 36, .inl (eb pu))), (rTr, .inl (X.1.2.1, 36, .inl (eb tr)))]) C dX11_needed_45 (c_X11_takeOut (g := X.1) (l := X.2.2.1) (rM := rM) (rTh := rTh) (rTe := rTe) (rPu := rPu) (rWh := rWh) (rGi := rGi) (rDr := rDr) (rTr := rTr) (rKn := rKn) (rRo := rRo) (rTx := rTx) (tn := 0) (n := n) (N := N) (sy := sy) (ez := ez) (la := la) (ma := ma) (x := x) (md := md) (rws := rws) (sz := sz) (gi := pu) (ls := lfS n sy j) (hn := (by first | assumption | omega)) (hsy := (by first | assumption | omega)) (hls := (lfS_lt hn hj))) gX11_needed_X11_takeOut rfl (by decide +kernel) rfl ⟨Nat.le_of_ble_eq_true rfl, Nat.le_of_ble_eq_true rfl⟩ ⟨rfl, rfl⟩ ⟨Nat.zero_le _, Nat.zero_le _⟩ (rest := []) rfl (Nat.le_of_ble_eq_true rfl) 0 rfl rfl [0, 1] (by decide) rfl (fun u => Eq.trans (b := [rM, rGi]) rfl rfl) (fun u => rfl) (fun v u hp => ?_)
        obtain ⟨g5, rfl⟩ : ∃ z, z = u := ⟨_, rfl⟩
        obtain ⟨rfl, p45_0⟩ := hp
        show RW X 0 0 48 [(0, .ref rM), (1, .int (nI j)), (2, .int (nI (fil N pu)))] [] [(rM, .inr (12, [.int (nI 0), .int (nI n), .int (nI (n / 2)), .int (nI 2), .int (nI sy), .ref rTh, .int (nI ez), .int la, .int ma, .long x, .ref rTe, .int (bz md), .ref rPu, .ref rWh, .ref rGi, .ref rDr, .ref rTr, .ref rKn, .ref rRo, .int (nI rws), .int (nI sz), .ref rTx])), (rGi, .inl (X.1.2.1, 36, .inl (eb g5))), (rPu, .inl (X.1.2.1, 36, .inl (eb pu))), (rTr, .inl (X.1.2.1, 36, .inl (eb tr)))]
        have hag : ∀ d, d < N → g5 d = woF (lfS n sy) (lfS n sy j) pu d := p45_0.1
        have hv5 : ∀ d v, g5 d = some v → v < n := fun d v e => by
          by_cases q : d < N
          · rw [hag d q] at e; exact hvp d v (wo_of e)
          · rw [p45_0.2 d (by omega)] at e; exact hvp d v e
        have hce : cntS n N g5 = cntS n N (woF (lfS n sy) (lfS n sy j) pu) := cntS_ext hag
        have hso := fil_wo (N := N) (lf := lfS n sy) (s := lfS n sy j) (g := pu)
        have hfe : fil N g5 = fil N (woF (lfS n sy) (lfS n sy j) pu) := fil_ext hag
        have hf1 := fil_le N pu
        have hf2 := fil_le N g5
        refine r_aload_n C dX11_needed_48 0 rfl rfl ?_
        refine r_callV0 (n := 0) (ws' := fun (u : Unit) => [(rM, .inr (12, [.int (nI 0), .int (nI n), .int (nI (n / 2)), .int (nI 2), .int (nI sy), .ref rTh, .int (nI ez), .int la, .int ma, .long x, .ref rTe, .int (bz md), .ref rPu, .ref rWh, .ref rGi, .ref rDr, .ref rTr, .ref rKn, .ref rRo, .int (nI rws), .int (nI sz), .ref rTx])), (rGi, .inl (X.1.2.1, 36, .inl (eb g5))), (rPu, .inl (X.1.2.1, 36, .inl (eb pu))), (rTr, .inl (X.1.2.1, 36, .inl (eb tr)))]) C dX11_needed_49 (c_X11_countGivens (g := X.1) (l := X.2.2.1) (rM := rM) (rTh := rTh) (rTe := rTe) (rPu := rPu) (rWh := rWh) (rGi := rGi) (rDr := rDr) (rTr := rTr) (rKn := rKn) (rRo := rRo) (rTx := rTx) (tn := 0) (n := n) (N := N) (sy := sy) (ez := ez) (la := la) (ma := ma) (x := x) (md := md) (rws := rws) (sz := sz) (gi := g5) (hn := (by first | assumption | omega)) (hk := hv5)) gX11_needed_X11_countGivens rfl (by decide +kernel) rfl ⟨Nat.le_of_ble_eq_true rfl, Nat.le_of_ble_eq_true rfl⟩ ⟨rfl, rfl⟩ ⟨Nat.zero_le _, Nat.zero_le _⟩ (rest := []) rfl (Nat.le_of_ble_eq_true rfl) 0 rfl rfl [0, 1] (by decide) rfl (fun u => Eq.trans (b := [rM, rGi]) rfl rfl) (fun u => rfl) (fun v u hp => ?_)
        obtain rfl := hp
        show RW X 0 0 52 [(0, .ref rM), (1, .int (nI j)), (2, .int (nI (fil N pu)))] [.int (nI (fil N g5))] [(rM, .inr (12, [.int (nI 0), .int (nI n), .int (nI (n / 2)), .int (nI 2), .int (nI sy), .ref rTh, .int (nI ez), .int la, .int ma, .long x, .ref rTe, .int (bz md), .ref rPu, .ref rWh, .ref rGi, .ref rDr, .ref rTr, .ref rKn, .ref rRo, .int (nI rws), .int (nI sz), .ref rTx])), (rGi, .inl (X.1.2.1, 36, .inl (eb g5))), (rPu, .inl (X.1.2.1, 36, .inl (eb pu))), (rTr, .inl (X.1.2.1, 36, .inl (eb tr)))]
        refine r_iload_n C dX11_needed_52 2 rfl rfl ?_
        refine r_icmp_ge (tgt := 69) C dX11_needed_53 (by decide) (fun h53 => ?_) (fun h53 => ?_)
        · have h53 : (fil N pu) ≤ (fil N g5) := (nI_leI (by omega) (by omega)).mp h53
          refine r_iconst C dX11_needed_69 (v := nI 0) (by decide) ?_
          refine r_top (y := bz (∃ j0, j0 < N ∧ (nI j) = nI j0 ∧ md ∧ needP n N (lfS n sy) (lfS n sy j0) pu)) ((bz_f (fun ⟨j2, q, e, _, w⟩ => by
                    have a : j = j2 := (nI_eq (by omega) (by omega)).mp e; subst a; exact absurd (hso.mpr w.1) (by rw [← hfe]; omega))).symm) ?_
          exact hret _ _ _ (0, g5, tr) ⟨rfl, fun w => absurd ⟨j, hj, rfl⟩ w, fun _ => rfl, hv5, hvt⟩ (Or.inr ⟨_, rfl, dX11_needed_70, Or.inr ⟨rfl, bz_01 _⟩⟩)
        · have h53 : ¬ ((fil N pu) ≤ (fil N g5)) := fun e9 => h53 ((nI_leI (by omega) (by omega)).mpr e9)
          refine r_aload_n C dX11_needed_56 0 rfl rfl ?_
          refine r_iconst C dX11_needed_57 (v := nI 2) (by decide) ?_
          refine r_callV0 (n := 1) (ws' := fun (u : (Nat → Option Nat)) => [(rM, .inr (12, [.int (nI 0), .int (nI n), .int (nI (n / 2)), .int (nI 2), .int (nI sy), .ref rTh, .int (nI ez), .int la, .int ma, .long x, .ref rTe, .int (bz md), .ref rPu, .ref rWh, .ref rGi, .ref rDr, .ref rTr, .ref rKn, .ref rRo, .int (nI rws), .int (nI sz), .ref rTx])), (rGi, .inl (X.1.2.1, 36, .inl (eb g5))), (rPu, .inl (X.1.2.1, 36, .inl (eb pu))), (rTr, .inl (X.1.2.1, 36, .inl (eb u)))]) C dX11_needed_58 (c_X11_countUpTo (g := X.1) (l := X.2.2.1) (rM := rM) (rTh := rTh) (rTe := rTe) (rPu := rPu) (rWh := rWh) (rGi := rGi) (rDr := rDr) (rTr := rTr) (rKn := rKn) (rRo := rRo) (rTx := rTx) (tn := 0) (n := n) (N := N) (sy := sy) (ez := ez) (la := la) (ma := ma) (x := x) (md := md) (rws := rws) (sz := sz) (tr0 := tr) (gi := g5) (most := 2) (hn := (by first | assumption | omega)) (hm0 := (by omega)) (hm1 := (by omega)) (hvt0 := hvt) (hvg := hv5)) gX11_needed_X11_countUpTo rfl (by decide +kernel) rfl ⟨Nat.le_of_ble_eq_true rfl, Nat.le_of_ble_eq_true rfl⟩ ⟨rfl, rfl⟩ ⟨Nat.zero_le _, Nat.zero_le _⟩ (rest := []) rfl (Nat.le_of_ble_eq_true rfl) 0 rfl rfl [0, 3, 1] (by decide) rfl (fun u => Eq.trans (b := [rM, rTr, rGi]) rfl rfl) (fun u => rfl) (fun v u hp => ?_)
          obtain ⟨t5, rfl⟩ : ∃ z, z = u := ⟨_, rfl⟩
          obtain ⟨rfl, p58_0⟩ := hp
          show RW X 0 0 61 [(0, .ref rM), (1, .int (nI j)), (2, .int (nI (fil N pu)))] [.int (nI (min 2 (0 + cntS n N g5)))] [(rM, .inr (12, [.int (nI 0), .int (nI n), .int (nI (n / 2)), .int (nI 2), .int (nI sy), .ref rTh, .int (nI ez), .int la, .int ma, .long x, .ref rTe, .int (bz md), .ref rPu, .ref rWh, .ref rGi, .ref rDr, .ref rTr, .ref rKn, .ref rRo, .int (nI rws), .int (nI sz), .ref rTx])), (rGi, .inl (X.1.2.1, 36, .inl (eb g5))), (rPu, .inl (X.1.2.1, 36, .inl (eb pu))), (rTr, .inl (X.1.2.1, 36, .inl (eb t5)))]
          refine r_iconst C dX11_needed_61 (v := nI 1) (by decide) ?_
          refine r_icmp_le (tgt := 69) C dX11_needed_62 (by decide) (fun h62 => ?_) (fun h62 => ?_)
          · have h62 : (min 2 (0 + cntS n N g5)) ≤ 1 := (nI_leI (by omega) (by omega)).mp h62
            refine r_iconst C dX11_needed_69 (v := nI 0) (by decide) ?_
            refine r_top (y := bz (∃ j0, j0 < N ∧ (nI j) = nI j0 ∧ md ∧ needP n N (lfS n sy) (lfS n sy j0) pu)) ((bz_f (fun ⟨j2, q, e, _, w⟩ => by
                      have a : j = j2 := (nI_eq (by omega) (by omega)).mp e; subst a; exact absurd w.2 (by rw [← hce]; omega))).symm) ?_
            exact hret _ _ _ (0, g5, t5) ⟨rfl, fun w => absurd ⟨j, hj, rfl⟩ w, fun _ => rfl, hv5, p58_0⟩ (Or.inr ⟨_, rfl, dX11_needed_70, Or.inr ⟨rfl, bz_01 _⟩⟩)
          · have h62 : ¬ ((min 2 (0 + cntS n N g5)) ≤ 1) := fun e9 => h62 ((nI_leI (by omega) (by omega)).mpr e9)
            refine r_iconst C dX11_needed_65 (v := nI 1) (by decide) ?_
            refine r_goto (tgt := 70) C dX11_needed_66 (by decide) ?_
            refine r_top (y := bz (∃ j0, j0 < N ∧ (nI j) = nI j0 ∧ md ∧ needP n N (lfS n sy) (lfS n sy j0) pu)) ((bz_t ⟨j, hj, rfl, h25, hso.mp (by rw [← hfe]; omega), by rw [← hce]; omega⟩).symm) ?_
            exact hret _ _ _ (0, g5, t5) ⟨rfl, fun w => absurd ⟨j, hj, rfl⟩ w, fun _ => rfl, hv5, p58_0⟩ (Or.inr ⟨_, rfl, dX11_needed_70, Or.inr ⟨rfl, bz_01 _⟩⟩)
      · have h25 : ¬ (md) := bz_0.mp h25
        refine r_iconst C dX11_needed_28 (v := nI 0) (by decide) ?_
        refine r_top (y := bz (∃ j0, j0 < N ∧ cc = nI j0 ∧ md ∧ needP n N (lfS n sy) (lfS n sy j0) pu)) ((bz_f (fun ⟨j, q, e, w, _⟩ => h25 w)).symm) ?_
        exact hret _ _ _ (0, gi, tr) ⟨rfl, fun w => absurd h7 w, fun _ => rfl, hvg, hvt⟩ (Or.inr ⟨_, rfl, dX11_needed_29, Or.inr ⟨rfl, bz_01 _⟩⟩)
  · have h7 : ¬ (∃ j, j < N ∧ cc = nI j) := bz_0.mp h7
    refine r_iconst C dX11_needed_10 (v := nI 1) (by decide) ?_
    refine r_goto (tgt := 15) C dX11_needed_11 (by decide) ?_
    refine r_top (y := bz (¬ (∃ j, j < N ∧ cc = nI j))) (bz_t h7).symm ?_
    refine r_callV0 (n := 2) (ws' := fun (u : Unit) => [(rM, .inr (12, [.int (nI (thrF 1 (¬ (∃ j, j < N ∧ cc = nI j)))), .int (nI n), .int (nI (n / 2)), .int (nI 2), .int (nI sy), .ref rTh, .int (nI ez), .int la, .int ma, .long x, .ref rTe, .int (bz md), .ref rPu, .ref rWh, .ref rGi, .ref rDr, .ref rTr, .ref rKn, .ref rRo, .int (nI rws), .int (nI sz), .ref rTx])), (rGi, .inl (X.1.2.1, 36, .inl (eb gi))), (rPu, .inl (X.1.2.1, 36, .inl (eb pu))), (rTr, .inl (X.1.2.1, 36, .inl (eb tr)))]) C dX11_needed_15 (c_X11_throwsIf (g := X.1) (l := X.2.2.1) (rM := rM) (rTh := rTh) (rTe := rTe) (rPu := rPu) (rWh := rWh) (rGi := rGi) (rDr := rDr) (rTr := rTr) (rKn := rKn) (rRo := rRo) (rTx := rTx) (tn := tn) (n := n) (N := N) (sy := sy) (ez := ez) (la := la) (ma := ma) (x := x) (md := md) (rws := rws) (sz := sz) (k := 1) (E := ¬ (∃ j, j < N ∧ cc = nI j)) ) gX11_needed_X11_throwsIf rfl (by decide +kernel) rfl ⟨Nat.le_of_ble_eq_true rfl, Nat.le_of_ble_eq_true rfl⟩ ⟨rfl, rfl⟩ ⟨Nat.zero_le _, Nat.zero_le _⟩ (rest := []) rfl (Nat.le_of_ble_eq_true rfl) 0 rfl rfl [0] (by decide) rfl (fun u => Eq.trans (b := [rM]) rfl rfl) (fun u => rfl) (fun v u hp => ?_)
    obtain rfl := hp
    show RW X 0 0 18 [(0, .ref rM), (1, .int cc)] [.int (bz (¬ (∃ j, j < N ∧ cc = nI j)))] [(rM, .inr (12, [.int (nI (thrF 1 (¬ (∃ j, j < N ∧ cc = nI j)))), .int (nI n), .int (nI (n / 2)), .int (nI 2), .int (nI sy), .ref rTh, .int (nI ez), .int la, .int ma, .long x, .ref rTe, .int (bz md), .ref rPu, .ref rWh, .ref rGi, .ref rDr, .ref rTr, .ref rKn, .ref rRo, .int (nI rws), .int (nI sz), .ref rTx])), (rGi, .inl (X.1.2.1, 36, .inl (eb gi))), (rPu, .inl (X.1.2.1, 36, .inl (eb pu))), (rTr, .inl (X.1.2.1, 36, .inl (eb tr)))]
    refine r_if_ne (tgt := 28) C dX11_needed_18 (by decide) (fun h18 => ?_) (fun h18 => ?_)
    · have h18 : (¬ (∃ j, j < N ∧ cc = nI j)) := bz_n0.mp h18
      rw [thrF_t h18]
      refine r_iconst C dX11_needed_28 (v := nI 0) (by decide) ?_
      refine r_top (y := bz (∃ j0, j0 < N ∧ cc = nI j0 ∧ md ∧ needP n N (lfS n sy) (lfS n sy j0) pu)) ((bz_f (fun ⟨j, q, e, _⟩ => h18 ⟨j, q, e⟩)).symm) ?_
      exact hret _ _ _ (1, gi, tr) ⟨rfl, fun _ => rfl, fun w => absurd w h18, hvg, hvt⟩ (Or.inr ⟨_, rfl, dX11_needed_29, Or.inr ⟨rfl, bz_01 _⟩⟩)
    · have h18 : ¬ ((¬ (∃ j, j < N ∧ cc = nI j))) := bz_0.mp h18
      exact absurd h7 h18
theorem fX11_unit_54 : Cond.fieldLink RX11 54 (TX11 0).1 (TX11 0).2.1 (TX11 0).2.2.1 ∈ wsX11_unit := List.mem_of_getElem? (i := 1) rfl
theorem iX11_unit_X11 : ∀ w ∈ wsX110, w ∈ wsX11_unit := by decide +kernel
theorem fX11_unit_158 : Cond.fieldLink RX11 158 (TX11 20).1 (TX11 20).2.1 (TX11 20).2.2.1 ∈ wsX11_unit := List.mem_of_getElem? (i := 2) rfl
theorem fX11_unit_42 : Cond.fieldLink RX11 42 (TX11 21).1 (TX11 21).2.1 (TX11 21).2.2.1 ∈ wsX11_unit := List.mem_of_getElem? (i := 3) rfl
set_option maxHeartbeats 4000000 in
set_option maxRecDepth 100000 in
theorem c_X11_unit {g : ww_G} {l : Launch} {rM : Nat} {rTh : Nat} {rTe : Nat} {rPu : Nat} {rWh : Nat} {rGi : Nat} {rDr : Nat} {rTr : Nat} {rKn : Nat} {rRo : Nat} {rTx : Nat} {tn : Nat} {n : Nat} {N : Nat} {sy : Nat} {ez : Nat} {la : Int32} {ma : Int32} {x : Int64} {md : Prop} {rws : Nat} {sz : Nat} {tx : Nat → Nat} {uu : Int32} (hsz : sz ≤ 60) : CT g l yX11_unit wsX11_unit (ww_rm 1) [.ref rM, .int uu] ([(rM, .inr (12, [.int (nI tn), .int (nI n), .int (nI (n / 2)), .int (nI 2), .int (nI sy), .ref rTh, .int (nI ez), .int la, .int ma, .long x, .ref rTe, .int (bz md), .ref rPu, .ref rWh, .ref rGi, .ref rDr, .ref rTr, .ref rKn, .ref rRo, .int (nI rws), .int (nI sz), .ref rTx])), (rTx, .inl (g.2.1, 60, .inl (nO tx)))]) (S := Nat × (Nat → Nat)) (fun vv9 u => vv9 = some (.int (bz (¬ uu < 0 ∧ uu ≤ nI 255 ∧ sz < 60))) ∧ ((¬ uu < 0 ∧ uu ≤ nI 255 ∧ sz < 60) → ∃ w, w < 256 ∧ uu = nI w ∧ u.1 = sz + 1 ∧ u.2 = uO tx sz w) ∧ (¬ (¬ uu < 0 ∧ uu ≤ nI 255 ∧ sz < 60) → u.1 = sz ∧ u.2 = tx)) (fun u => [(rM, .inr (12, [.int (nI 0), .int (nI n), .int (nI (n / 2)), .int (nI 2), .int (nI sy), .ref rTh, .int (nI ez), .int la, .int ma, .long x, .ref rTe, .int (bz md), .ref rPu, .ref rWh, .ref rGi, .ref rDr, .ref rTr, .ref rKn, .ref rRo, .int (nI rws), .int (nI u.1), .ref rTx])), (rTx, .inl (g.2.1, 60, .inl (nO u.2)))]) := by
  refine CT.of cX11_unit 2 (some .boolean) RX11 (by decide +kernel) rfl rfl (Nat.le_of_ble_eq_true rfl) ?_
  intro X hg hl C hret
  subst hg; subst hl
  show RW X 0 0 0 [(0, .ref rM), (1, .int uu)] [] [(rM, .inr (12, [.int (nI tn), .int (nI n), .int (nI (n / 2)), .int (nI 2), .int (nI sy), .ref rTh, .int (nI ez), .int la, .int ma, .long x, .ref rTe, .int (bz md), .ref rPu, .ref rWh, .ref rGi, .ref rDr, .ref rTr, .ref rKn, .ref rRo, .int (nI rws), .int (nI sz), .ref rTx])), (rTx, .inl (X.1.2.1, 60, .inl (nO tx)))]
  refine r_aload_n C dX11_unit_0 0 rfl rfl ?_
  refine r_iconst C dX11_unit_1 (v := nI 0) (by decide) ?_
  refine r_put C dX11_unit_2 iX11_unit_X11 tyX11 tyX11_ok nmX11 0 fX11_unit_54 0 rfl rfl (by decide) rfl rfl rfl rfl (Nat.le_of_ble_eq_true rfl) (ws' := [(rM, .inr (12, [.int (nI 0), .int (nI n), .int (nI (n / 2)), .int (nI 2), .int (nI sy), .ref rTh, .int (nI ez), .int la, .int ma, .long x, .ref rTe, .int (bz md), .ref rPu, .ref rWh, .ref rGi, .ref rDr, .ref rTr, .ref rKn, .ref rRo, .int (nI rws), .int (nI sz), .ref rTx])), (rTx, .inl (X.1.2.1, 60, .inl (nO tx)))]) rfl ?_
  refine r_iload_n C dX11_unit_5 1 rfl rfl ?_
  refine r_if_lt (tgt := 25) C dX11_unit_6 (by decide) (fun h6 => ?_) (fun h6 => ?_)
  · refine r_iconst C dX11_unit_25 (v := nI 0) (by decide) ?_
    refine r_top (y := bz (¬ uu < 0 ∧ uu ≤ nI 255 ∧ sz < 60)) ((bz_f (fun q => q.1 h6)).symm) ?_
    exact hret _ _ _ (sz, tx) ⟨rfl, fun q => absurd q (fun q => q.1 h6), fun _ => ⟨rfl, rfl⟩⟩ (Or.inr ⟨_, rfl, dX11_unit_26, Or.inr ⟨rfl, bz_01 _⟩⟩)
  · refine r_iload_n C dX11_unit_9 1 rfl rfl ?_
    refine r_sipush C dX11_unit_10 (v := nI 255) (by decide) ?_
    refine r_icmp_gt (tgt := 25) C dX11_unit_13 (by decide) (fun h13 => ?_) (fun h13 => ?_)
    · refine r_iconst C dX11_unit_25 (v := nI 0) (by decide) ?_
      refine r_top (y := bz (¬ uu < 0 ∧ uu ≤ nI 255 ∧ sz < 60)) ((bz_f (fun q => absurd h13 (Int32.not_lt.mpr q.2.1))).symm) ?_
      exact hret _ _ _ (sz, tx) ⟨rfl, fun q => absurd q (fun q => absurd h13 (Int32.not_lt.mpr q.2.1)), fun _ => ⟨rfl, rfl⟩⟩ (Or.inr ⟨_, rfl, dX11_unit_26, Or.inr ⟨rfl, bz_01 _⟩⟩)
    · obtain ⟨w, hw, rfl⟩ := nI_of2 (M := nI 255) (n := 255) (by decide) h6 (Int32.not_lt.mp h13)
      refine r_aload_n C dX11_unit_16 0 rfl rfl ?_
      refine r_get C dX11_unit_17 iX11_unit_X11 20 fX11_unit_158 0 rfl rfl (by decide) rfl ?_
      refine r_bipush C dX11_unit_20 (v := nI 60) (by decide) ?_
      refine r_icmp_ne (tgt := 27) C dX11_unit_22 (by decide) (fun h22 => ?_) (fun h22 => ?_)
      · have h22 : ¬ (sz = 60) := fun e9 => h22 ((nI_eq (by omega) (by omega)).mpr e9)
        refine r_aload_n C dX11_unit_27 0 rfl rfl ?_
        refine r_get C dX11_unit_28 iX11_unit_X11 21 fX11_unit_42 0 rfl rfl (by decide) rfl ?_
        refine r_aload_n C dX11_unit_31 0 rfl rfl ?_
        refine r_get C dX11_unit_32 iX11_unit_X11 20 fX11_unit_158 0 rfl rfl (by decide) rfl ?_
        refine r_iload_n C dX11_unit_35 1 rfl rfl ?_
        refine r_iast C dX11_unit_36 1 rfl (by omega) (by omega) (ws' := [(rM, .inr (12, [.int (nI 0), .int (nI n), .int (nI (n / 2)), .int (nI 2), .int (nI sy), .ref rTh, .int (nI ez), .int la, .int ma, .long x, .ref rTe, .int (bz md), .ref rPu, .ref rWh, .ref rGi, .ref rDr, .ref rTr, .ref rKn, .ref rRo, .int (nI rws), .int (nI sz), .ref rTx])), (rTx, .inl (X.1.2.1, 60, .inl (upd (nO tx) sz (nI w))))]) rfl ?_
        rw [nO_u]
        show RW X 0 0 37 [(0, .ref rM), (1, .int (nI w))] [] [(rM, .inr (12, [.int (nI 0), .int (nI n), .int (nI (n / 2)), .int (nI 2), .int (nI sy), .ref rTh, .int (nI ez), .int la, .int ma, .long x, .ref rTe, .int (bz md), .ref rPu, .ref rWh, .ref rGi, .ref rDr, .ref rTr, .ref rKn, .ref rRo, .int (nI rws), .int (nI sz), .ref rTx])), (rTx, .inl (X.1.2.1, 60, .inl (nO (uO tx sz w))))]
        refine r_aload_n C dX11_unit_37 0 rfl rfl ?_
        refine r_dup C dX11_unit_38 rfl ?_
        refine r_get C dX11_unit_39 iX11_unit_X11 20 fX11_unit_158 0 rfl rfl (by decide) rfl ?_
        refine r_iconst C dX11_unit_42 (v := nI 1) (by decide) ?_
        refine r_iadd C dX11_unit_43 (v := nI (sz + 1)) (nI_add _ _) ?_
        refine r_put C dX11_unit_44 iX11_unit_X11 tyX11 tyX11_ok nmX11 20 fX11_unit_158 0 rfl rfl (by decide) rfl rfl rfl rfl (Nat.le_of_ble_eq_true rfl) (ws' := [(rM, .inr (12, [.int (nI 0), .int (nI n), .int (nI (n / 2)), .int (nI 2), .int (nI sy), .ref rTh, .int (nI ez), .int la, .int ma, .long x, .ref rTe, .int (bz md), .ref rPu, .ref rWh, .ref rGi, .ref rDr, .ref rTr, .ref rKn, .ref rRo, .int (nI rws), .int (nI (sz + 1)), .ref rTx])), (rTx, .inl (X.1.2.1, 60, .inl (nO (uO tx sz w))))]) rfl ?_
        refine r_iconst C dX11_unit_47 (v := nI 1) (by decide) ?_
        refine r_top (y := bz (¬ (nI w) < 0 ∧ (nI w) ≤ nI 255 ∧ sz < 60)) ((bz_t ⟨h6, Int32.not_lt.mp h13, by omega⟩).symm) ?_
        exact hret _ _ _ (sz + 1, uO tx sz w) ⟨rfl, fun _ => ⟨w, by omega, rfl, rfl, rfl⟩, fun q => absurd ⟨h6, Int32.not_lt.mp h13, by omega⟩ q⟩ (Or.inr ⟨_, rfl, dX11_unit_48, Or.inr ⟨rfl, bz_01 _⟩⟩)
      · have h22 : sz = 60 := (nI_eq (by omega) (by omega)).mp h22
        refine r_iconst C dX11_unit_25 (v := nI 0) (by decide) ?_
        refine r_top (y := bz (¬ (nI w) < 0 ∧ (nI w) ≤ nI 255 ∧ sz < 60)) ((bz_f (fun q => by have := q.2.2; omega)).symm) ?_
        exact hret _ _ _ (sz, tx) ⟨rfl, fun q => absurd q (fun q => by have := q.2.2; omega), fun _ => ⟨rfl, rfl⟩⟩ (Or.inr ⟨_, rfl, dX11_unit_26, Or.inr ⟨rfl, bz_01 _⟩⟩)
theorem fX11_read_158 : Cond.fieldLink RX11 158 (TX11 20).1 (TX11 20).2.1 (TX11 20).2.2.1 ∈ wsX11_read := List.mem_of_getElem? (i := 1) rfl
theorem iX11_read_X11 : ∀ w ∈ wsX110, w ∈ wsX11_read := by decide +kernel
theorem fX11_read_42 : Cond.fieldLink RX11 42 (TX11 21).1 (TX11 21).2.1 (TX11 21).2.2.1 ∈ wsX11_read := List.mem_of_getElem? (i := 2) rfl
theorem fX11_read_45 : Cond.fieldLink RX11 45 (TX11 1).1 (TX11 1).2.1 (TX11 1).2.2.1 ∈ wsX11_read := List.mem_of_getElem? (i := 3) rfl
theorem fX11_read_27 : Cond.fieldLink RX11 27 (TX11 14).1 (TX11 14).2.1 (TX11 14).2.2.1 ∈ wsX11_read := List.mem_of_getElem? (i := 4) rfl
set_option maxHeartbeats 4000000 in
set_option maxRecDepth 100000 in
theorem c_X11_read {g : ww_G} {l : Launch} {rM : Nat} {rTh : Nat} {rTe : Nat} {rPu : Nat} {rWh : Nat} {rGi : Nat} {rDr : Nat} {rTr : Nat} {rKn : Nat} {rRo : Nat} {rTx : Nat} {tn : Nat} {n : Nat} {N : Nat} {sy : Nat} {ez : Nat} {la : Int32} {ma : Int32} {x : Int64} {md : Prop} {rws : Nat} {sz : Nat} {tx : Nat → Nat} {gi : Nat → Option Nat} (hn : (n = 4 ∧ N = 16) ∨ (n = 6 ∧ N = 36)) (hsz : sz ≤ 60) (htx : ∀ j, tx j < 1073741824) (hvg : (∀ c v, gi c = some v → v < n)) : CT g l yX11_read wsX11_read (ww_rm 2) [.ref rM] ([(rM, .inr (12, [.int (nI tn), .int (nI n), .int (nI (n / 2)), .int (nI 2), .int (nI sy), .ref rTh, .int (nI ez), .int la, .int ma, .long x, .ref rTe, .int (bz md), .ref rPu, .ref rWh, .ref rGi, .ref rDr, .ref rTr, .ref rKn, .ref rRo, .int (nI rws), .int (nI sz), .ref rTx])), (rGi, .inl (g.2.1, 36, .inl (eb gi))), (rTx, .inl (g.2.1, 60, .inl (nO tx)))]) (S := (Nat → Option Nat)) (fun vv9 u => vv9 = some (.int (eo (rdF n N tx sz N 0 (fun _ => none)).1)) ∧ ((rdF n N tx sz N 0 (fun _ => none)).1 = none → ∀ d, d < N → u d = (rdF n N tx sz N 0 (fun _ => none)).2 d) ∧ ((∀ c v, u c = some v → v < n))) (fun u => [(rM, .inr (12, [.int (nI tn), .int (nI n), .int (nI (n / 2)), .int (nI 2), .int (nI sy), .ref rTh, .int (nI ez), .int la, .int ma, .long x, .ref rTe, .int (bz md), .ref rPu, .ref rWh, .ref rGi, .ref rDr, .ref rTr, .ref rKn, .ref rRo, .int (nI rws), .int (nI sz), .ref rTx])), (rGi, .inl (g.2.1, 36, .inl (eb u))), (rTx, .inl (g.2.1, 60, .inl (nO tx)))]) := by
  refine CT.of cX11_read 4 (some .int) RX11 (by decide +kernel) rfl rfl (Nat.le_of_ble_eq_true rfl) ?_
  intro X hg hl C hret
  subst hg; subst hl
  show RW X 0 0 0 [(0, .ref rM)] [] [(rM, .inr (12, [.int (nI tn), .int (nI n), .int (nI (n / 2)), .int (nI 2), .int (nI sy), .ref rTh, .int (nI ez), .int la, .int ma, .long x, .ref rTe, .int (bz md), .ref rPu, .ref rWh, .ref rGi, .ref rDr, .ref rTr, .ref rKn, .ref rRo, .int (nI rws), .int (nI sz), .ref rTx])), (rGi, .inl (X.1.2.1, 36, .inl (eb gi))), (rTx, .inl (X.1.2.1, 60, .inl (nO tx)))]
  refine r_iconst C dX11_read_0 (v := nI 0) (by decide) ?_
  refine r_istore_n C dX11_read_1 rfl (by decide) [1, 0] (lv' := [(0, .ref rM), (1, .int (nI 0))]) rfl ?_
  have L2 : ∀ (d2 : Nat) (c : Nat) (g1 : Nat → Option Nat) (b : Nat → Option Nat), (N - c) < d2 → (c ≤ N) → (rdF n N tx sz N 0 (fun _ => none) = rdF n N tx sz (N - c) c b) → (∀ d, d < c → g1 d = b d) → (∀ d, c ≤ d → b d = none) → ((∀ c v, g1 c = some v → v < n)) → RW X 0 0 2 [(0, .ref rM), (1, .int (nI c))] [] [(rM, .inr (12, [.int (nI tn), .int (nI n), .int (nI (n / 2)), .int (nI 2), .int (nI sy), .ref rTh, .int (nI ez), .int la, .int ma, .long x, .ref rTe, .int (bz md), .ref rPu, .ref rWh, .ref rGi, .ref rDr, .ref rTr, .ref rKn, .ref rRo, .int (nI rws), .int (nI sz), .ref rTx])), (rGi, .inl (X.1.2.1, 36, .inl (eb g1))), (rTx, .inl (X.1.2.1, 60, .inl (nO tx)))] := by
    intro d2
    induction d2 with
    | zero => intro c g1 b hd2; exact absurd hd2 (Nat.not_lt_zero _)
    | succ d2 ih2 =>
      intro c g1 b hd2 hc hF hb1 hb0 hv1
      refine r_iload_n C dX11_read_2 1 rfl rfl ?_
      refine r_aload_n C dX11_read_3 0 rfl rfl ?_
      refine r_callV0 (n := 0) (ws' := fun (u : Unit) => [(rM, .inr (12, [.int (nI tn), .int (nI n), .int (nI (n / 2)), .int (nI 2), .int (nI sy), .ref rTh, .int (nI ez), .int la, .int ma, .long x, .ref rTe, .int (bz md), .ref rPu, .ref rWh, .ref rGi, .ref rDr, .ref rTr, .ref rKn, .ref rRo, .int (nI rws), .int (nI sz), .ref rTx])), (rGi, .inl (X.1.2.1, 36, .inl (eb g1))), (rTx, .inl (X.1.2.1, 60, .inl (nO tx)))]) C dX11_read_4 (c_X11_cells (g := X.1) (l := X.2.2.1) (rM := rM) (rTh := rTh) (rTe := rTe) (rPu := rPu) (rWh := rWh) (rGi := rGi) (rDr := rDr) (rTr := rTr) (rKn := rKn) (rRo := rRo) (rTx := rTx) (tn := tn) (n := n) (N := N) (sy := sy) (ez := ez) (la := la) (ma := ma) (x := x) (md := md) (rws := rws) (sz := sz) (hn := (by first | assumption | omega))) gX11_read_X11_cells rfl (by decide +kernel) rfl ⟨Nat.le_of_ble_eq_true rfl, Nat.le_of_ble_eq_true rfl⟩ ⟨rfl, rfl⟩ ⟨Nat.zero_le _, Nat.zero_le _⟩ (rest := [.int (nI c)]) rfl (Nat.le_of_ble_eq_true rfl) 0 rfl rfl [0] (by decide) rfl (fun u => Eq.trans (b := [rM]) rfl rfl) (fun u => rfl) (fun v u hp => ?_)
      obtain rfl := hp
      show RW X 0 0 7 [(0, .ref rM), (1, .int (nI c))] [.int (nI N), .int (nI c)] [(rM, .inr (12, [.int (nI tn), .int (nI n), .int (nI (n / 2)), .int (nI 2), .int (nI sy), .ref rTh, .int (nI ez), .int la, .int ma, .long x, .ref rTe, .int (bz md), .ref rPu, .ref rWh, .ref rGi, .ref rDr, .ref rTr, .ref rKn, .ref rRo, .int (nI rws), .int (nI sz), .ref rTx])), (rGi, .inl (X.1.2.1, 36, .inl (eb g1))), (rTx, .inl (X.1.2.1, 60, .inl (nO tx)))]
      refine r_icmp_ge (tgt := 121) C dX11_read_7 (by decide) (fun h7 => ?_) (fun h7 => ?_)
      · have h7 : N ≤ c := (nI_leI (by omega) (by omega)).mp h7
        refine r_aload_n C dX11_read_121 0 rfl rfl ?_
        refine r_get C dX11_read_122 iX11_read_X11 20 fX11_read_158 0 rfl rfl (by decide) rfl ?_
        refine r_aload_n C dX11_read_125 0 rfl rfl ?_
        refine r_callV0 (n := 0) (ws' := fun (u : Unit) => [(rM, .inr (12, [.int (nI tn), .int (nI n), .int (nI (n / 2)), .int (nI 2), .int (nI sy), .ref rTh, .int (nI ez), .int la, .int ma, .long x, .ref rTe, .int (bz md), .ref rPu, .ref rWh, .ref rGi, .ref rDr, .ref rTr, .ref rKn, .ref rRo, .int (nI rws), .int (nI sz), .ref rTx])), (rGi, .inl (X.1.2.1, 36, .inl (eb g1))), (rTx, .inl (X.1.2.1, 60, .inl (nO tx)))]) C dX11_read_126 (c_X11_cells (g := X.1) (l := X.2.2.1) (rM := rM) (rTh := rTh) (rTe := rTe) (rPu := rPu) (rWh := rWh) (rGi := rGi) (rDr := rDr) (rTr := rTr) (rKn := rKn) (rRo := rRo) (rTx := rTx) (tn := tn) (n := n) (N := N) (sy := sy) (ez := ez) (la := la) (ma := ma) (x := x) (md := md) (rws := rws) (sz := sz) (hn := (by first | assumption | omega))) gX11_read_X11_cells rfl (by decide +kernel) rfl ⟨Nat.le_of_ble_eq_true rfl, Nat.le_of_ble_eq_true rfl⟩ ⟨rfl, rfl⟩ ⟨Nat.zero_le _, Nat.zero_le _⟩ (rest := [.int (nI sz)]) rfl (Nat.le_of_ble_eq_true rfl) 0 rfl rfl [0] (by decide) rfl (fun u => Eq.trans (b := [rM]) rfl rfl) (fun u => rfl) (fun v u hp => ?_)
        obtain rfl := hp
        show RW X 0 0 129 [(0, .ref rM), (1, .int (nI c))] [.int (nI N), .int (nI sz)] [(rM, .inr (12, [.int (nI tn), .int (nI n), .int (nI (n / 2)), .int (nI 2), .int (nI sy), .ref rTh, .int (nI ez), .int la, .int ma, .long x, .ref rTe, .int (bz md), .ref rPu, .ref rWh, .ref rGi, .ref rDr, .ref rTr, .ref rKn, .ref rRo, .int (nI rws), .int (nI sz), .ref rTx])), (rGi, .inl (X.1.2.1, 36, .inl (eb g1))), (rTx, .inl (X.1.2.1, 60, .inl (nO tx)))]
        refine r_icmp_le (tgt := 139) C dX11_read_129 (by decide) (fun h129 => ?_) (fun h129 => ?_)
        · have h129 : sz ≤ N := (nI_leI (by omega) (by omega)).mp h129
          refine r_iconst C dX11_read_139 (v := (-1)) (by decide) ?_
          have hcN : c = N := by omega
          have hF0 : rdF n N tx sz N 0 (fun _ => none) = (none, b) := by
            rw [hF, hcN, Nat.sub_self]; show (if N < sz then some N else none, b) = _; rw [if_neg (by omega)]
          rw [hF0] at hret
          exact hret _ _ _ (g1) ⟨rfl, fun _ d q => hb1 d (by omega), hv1⟩ (Or.inr ⟨_, rfl, dX11_read_140, Or.inl rfl⟩)
        · have h129 : ¬ (sz ≤ N) := fun e9 => h129 ((nI_leI (by omega) (by omega)).mpr e9)
          refine r_aload_n C dX11_read_132 0 rfl rfl ?_
          refine r_callV0 (n := 0) (ws' := fun (u : Unit) => [(rM, .inr (12, [.int (nI tn), .int (nI n), .int (nI (n / 2)), .int (nI 2), .int (nI sy), .ref rTh, .int (nI ez), .int la, .int ma, .long x, .ref rTe, .int (bz md), .ref rPu, .ref rWh, .ref rGi, .ref rDr, .ref rTr, .ref rKn, .ref rRo, .int (nI rws), .int (nI sz), .ref rTx])), (rGi, .inl (X.1.2.1, 36, .inl (eb g1))), (rTx, .inl (X.1.2.1, 60, .inl (nO tx)))]) C dX11_read_133 (c_X11_cells (g := X.1) (l := X.2.2.1) (rM := rM) (rTh := rTh) (rTe := rTe) (rPu := rPu) (rWh := rWh) (rGi := rGi) (rDr := rDr) (rTr := rTr) (rKn := rKn) (rRo := rRo) (rTx := rTx) (tn := tn) (n := n) (N := N) (sy := sy) (ez := ez) (la := la) (ma := ma) (x := x) (md := md) (rws := rws) (sz := sz) (hn := (by first | assumption | omega))) gX11_read_X11_cells rfl (by decide +kernel) rfl ⟨Nat.le_of_ble_eq_true rfl, Nat.le_of_ble_eq_true rfl⟩ ⟨rfl, rfl⟩ ⟨Nat.zero_le _, Nat.zero_le _⟩ (rest := []) rfl (Nat.le_of_ble_eq_true rfl) 0 rfl rfl [0] (by decide) rfl (fun u => Eq.trans (b := [rM]) rfl rfl) (fun u => rfl) (fun v u hp => ?_)
          obtain rfl := hp
          show RW X 0 0 136 [(0, .ref rM), (1, .int (nI c))] [.int (nI N)] [(rM, .inr (12, [.int (nI tn), .int (nI n), .int (nI (n / 2)), .int (nI 2), .int (nI sy), .ref rTh, .int (nI ez), .int la, .int ma, .long x, .ref rTe, .int (bz md), .ref rPu, .ref rWh, .ref rGi, .ref rDr, .ref rTr, .ref rKn, .ref rRo, .int (nI rws), .int (nI sz), .ref rTx])), (rGi, .inl (X.1.2.1, 36, .inl (eb g1))), (rTx, .inl (X.1.2.1, 60, .inl (nO tx)))]
          refine r_goto (tgt := 140) C dX11_read_136 (by decide) ?_
          have hcN : c = N := by omega
          have hF0 : rdF n N tx sz N 0 (fun _ => none) = (some N, b) := by
            rw [hF, hcN, Nat.sub_self]; show (if N < sz then some N else none, b) = _; rw [if_pos (by omega)]
          rw [hF0] at hret
          exact hret _ _ _ (g1) ⟨rfl, fun w => (by cases w), hv1⟩ (Or.inr ⟨_, rfl, dX11_read_140, Or.inl rfl⟩)
      · have h7 : ¬ (N ≤ c) := fun e9 => h7 ((nI_leI (by omega) (by omega)).mpr e9)
        refine r_iload_n C dX11_read_10 1 rfl rfl ?_
        refine r_aload_n C dX11_read_11 0 rfl rfl ?_
        refine r_get C dX11_read_12 iX11_read_X11 20 fX11_read_158 0 rfl rfl (by decide) rfl ?_
        refine r_icmp_lt (tgt := 20) C dX11_read_15 (by decide) (fun h15 => ?_) (fun h15 => ?_)
        · have h15 : c < sz := (nI_ltI (by omega) (by omega)).mp h15
          have htc := htx c
          refine r_aload_n C dX11_read_20 0 rfl rfl ?_
          refine r_get C dX11_read_21 iX11_read_X11 21 fX11_read_42 0 rfl rfl (by decide) rfl ?_
          refine r_iload_n C dX11_read_24 1 rfl rfl ?_
          refine r_iald C dX11_read_25 2 rfl (by omega) (by omega) ?_
          show RW X 0 0 26 [(0, .ref rM), (1, .int (nI c))] [.int (nI (tx c))] [(rM, .inr (12, [.int (nI tn), .int (nI n), .int (nI (n / 2)), .int (nI 2), .int (nI sy), .ref rTh, .int (nI ez), .int la, .int ma, .long x, .ref rTe, .int (bz md), .ref rPu, .ref rWh, .ref rGi, .ref rDr, .ref rTr, .ref rKn, .ref rRo, .int (nI rws), .int (nI sz), .ref rTx])), (rGi, .inl (X.1.2.1, 36, .inl (eb g1))), (rTx, .inl (X.1.2.1, 60, .inl (nO tx)))]
          refine r_bipush C dX11_read_26 (v := nI 46) (by decide) ?_
          refine r_icmp_ne (tgt := 35) C dX11_read_28 (by decide) (fun h28 => ?_) (fun h28 => ?_)
          · have h28 : ¬ ((tx c) = 46) := fun e9 => h28 ((nI_eq (by omega) (by omega)).mpr e9)
            refine r_aload_n C dX11_read_35 0 rfl rfl ?_
            refine r_get C dX11_read_36 iX11_read_X11 21 fX11_read_42 0 rfl rfl (by decide) rfl ?_
            refine r_iload_n C dX11_read_39 1 rfl rfl ?_
            refine r_iald C dX11_read_40 2 rfl (by omega) (by omega) ?_
            show RW X 0 0 41 [(0, .ref rM), (1, .int (nI c))] [.int (nI (tx c))] [(rM, .inr (12, [.int (nI tn), .int (nI n), .int (nI (n / 2)), .int (nI 2), .int (nI sy), .ref rTh, .int (nI ez), .int la, .int ma, .long x, .ref rTe, .int (bz md), .ref rPu, .ref rWh, .ref rGi, .ref rDr, .ref rTr, .ref rKn, .ref rRo, .int (nI rws), .int (nI sz), .ref rTx])), (rGi, .inl (X.1.2.1, 36, .inl (eb g1))), (rTx, .inl (X.1.2.1, 60, .inl (nO tx)))]
            refine r_bipush C dX11_read_41 (v := nI 49) (by decide) ?_
            refine r_isub C dX11_read_43 (v := nI (tx c) - nI 49) rfl ?_
            refine r_istore_n C dX11_read_44 rfl (by decide) [1, 2, 0] (lv' := [(0, .ref rM), (1, .int (nI c)), (2, .int (nI (tx c) - nI 49))]) rfl ?_
            refine r_aload_n C dX11_read_45 0 rfl rfl ?_
            refine r_get C dX11_read_46 iX11_read_X11 21 fX11_read_42 0 rfl rfl (by decide) rfl ?_
            refine r_iload_n C dX11_read_49 1 rfl rfl ?_
            refine r_iald C dX11_read_50 2 rfl (by omega) (by omega) ?_
            show RW X 0 0 51 [(0, .ref rM), (1, .int (nI c)), (2, .int (nI (tx c) - nI 49))] [.int (nI (tx c))] [(rM, .inr (12, [.int (nI tn), .int (nI n), .int (nI (n / 2)), .int (nI 2), .int (nI sy), .ref rTh, .int (nI ez), .int la, .int ma, .long x, .ref rTe, .int (bz md), .ref rPu, .ref rWh, .ref rGi, .ref rDr, .ref rTr, .ref rKn, .ref rRo, .int (nI rws), .int (nI sz), .ref rTx])), (rGi, .inl (X.1.2.1, 36, .inl (eb g1))), (rTx, .inl (X.1.2.1, 60, .inl (nO tx)))]
            refine r_bipush C dX11_read_51 (v := nI 46) (by decide) ?_
            refine r_icmp_eq (tgt := 70) C dX11_read_53 (by decide) (fun h53 => ?_) (fun h53 => ?_)
            · have h53 : (tx c) = 46 := (nI_eq (by omega) (by omega)).mp h53
              exact absurd h53 h28
            · have h53 : ¬ ((tx c) = 46) := fun e9 => h53 ((nI_eq (by omega) (by omega)).mpr e9)
              refine r_iload_n C dX11_read_56 2 rfl rfl ?_
              refine r_if_lt (tgt := 68) C dX11_read_57 (by decide) (fun h57 => ?_) (fun h57 => ?_)
              · refine r_iload_n C dX11_read_68 1 rfl rfl ?_
                have hno := rdB_no (n := n) (N := N) (b := b) (c := c) (t := tx c) h28 (fun q => absurd ((sub49 (by omega)).mp h57) (by omega))
                have hF0 : rdF n N tx sz N 0 (fun _ => none) = (some c, b) := by
                  rw [hF, show N - c = (N - (c + 1)) + 1 by omega]; exact rdF_no (by omega) hno
                rw [hF0] at hret
                exact hret _ _ _ (g1) ⟨rfl, fun w => (by cases w), hv1⟩ (Or.inr ⟨_, rfl, dX11_read_69, Or.inl rfl⟩)
              · have h49 : ¬ tx c < 49 := fun q => h57 ((sub49 (by omega)).mpr q)
                rw [pk_sub (show 49 ≤ tx c by omega)]
                show RW X 0 0 60 [(0, .ref rM), (1, .int (nI c)), (2, .int (nI (tx c - 49)))] [] [(rM, .inr (12, [.int (nI tn), .int (nI n), .int (nI (n / 2)), .int (nI 2), .int (nI sy), .ref rTh, .int (nI ez), .int la, .int ma, .long x, .ref rTe, .int (bz md), .ref rPu, .ref rWh, .ref rGi, .ref rDr, .ref rTr, .ref rKn, .ref rRo, .int (nI rws), .int (nI sz), .ref rTx])), (rGi, .inl (X.1.2.1, 36, .inl (eb g1))), (rTx, .inl (X.1.2.1, 60, .inl (nO tx)))]
                refine r_iload_n C dX11_read_60 2 rfl rfl ?_
                refine r_aload_n C dX11_read_61 0 rfl rfl ?_
                refine r_get C dX11_read_62 iX11_read_X11 1 fX11_read_45 0 rfl rfl (by decide) rfl ?_
                refine r_icmp_lt (tgt := 70) C dX11_read_65 (by decide) (fun h65 => ?_) (fun h65 => ?_)
                · have h65 : (tx c - 49) < n := (nI_ltI (by omega) (by omega)).mp h65
                  refine r_iconst C dX11_read_70 (v := nI 0) (by decide) ?_
                  refine r_istore_n C dX11_read_71 rfl (by decide) [1, 2, 3, 0] (lv' := [(0, .ref rM), (1, .int (nI c)), (2, .int (nI (tx c - 49))), (3, .int (nI 0))]) rfl ?_
                  have L72 : ∀ (d72 : Nat) (j : Nat), (c - j) < d72 → (j ≤ c) → (¬ tx c = 46 → ∀ d, d < j → tog n c d → g1 d ≠ some (tx c - 49)) → RW X 0 0 72 [(0, .ref rM), (1, .int (nI c)), (2, .int (nI (tx c - 49))), (3, .int (nI j))] [] [(rM, .inr (12, [.int (nI tn), .int (nI n), .int (nI (n / 2)), .int (nI 2), .int (nI sy), .ref rTh, .int (nI ez), .int la, .int ma, .long x, .ref rTe, .int (bz md), .ref rPu, .ref rWh, .ref rGi, .ref rDr, .ref rTr, .ref rKn, .ref rRo, .int (nI rws), .int (nI sz), .ref rTx])), (rGi, .inl (X.1.2.1, 36, .inl (eb g1))), (rTx, .inl (X.1.2.1, 60, .inl (nO tx)))] := by
                    intro d72
                    induction d72 with
                    | zero => intro j hd72; exact absurd hd72 (Nat.not_lt_zero _)
                    | succ d72 ih72 =>
                      intro j hd72 hj hne
                      refine r_iload_n C dX11_read_72 3 rfl rfl ?_
                      refine r_iload_n C dX11_read_73 1 rfl rfl ?_
                      refine r_icmp_ge (tgt := 108) C dX11_read_74 (by decide) (fun h74 => ?_) (fun h74 => ?_)
                      · have h74 : c ≤ j := (nI_leI (by omega) (by omega)).mp h74
                        refine r_aload_n C dX11_read_108 0 rfl rfl ?_
                        refine r_get C dX11_read_109 iX11_read_X11 14 fX11_read_27 0 rfl rfl (by decide) rfl ?_
                        refine r_iload_n C dX11_read_112 1 rfl rfl ?_
                        refine r_iload_n C dX11_read_113 2 rfl rfl ?_
                        refine r_iast C dX11_read_114 1 rfl (by omega) (by omega) (ws' := [(rM, .inr (12, [.int (nI tn), .int (nI n), .int (nI (n / 2)), .int (nI 2), .int (nI sy), .ref rTh, .int (nI ez), .int la, .int ma, .long x, .ref rTe, .int (bz md), .ref rPu, .ref rWh, .ref rGi, .ref rDr, .ref rTr, .ref rKn, .ref rRo, .int (nI rws), .int (nI sz), .ref rTx])), (rGi, .inl (X.1.2.1, 36, .inl (upd (eb g1) c (nI (tx c - 49))))), (rTx, .inl (X.1.2.1, 60, .inl (nO tx)))]) rfl ?_
                        rw [eb_s]
                        show RW X 0 0 115 [(0, .ref rM), (1, .int (nI c)), (2, .int (nI (tx c - 49))), (3, .int (nI j))] [] [(rM, .inr (12, [.int (nI tn), .int (nI n), .int (nI (n / 2)), .int (nI 2), .int (nI sy), .ref rTh, .int (nI ez), .int la, .int ma, .long x, .ref rTe, .int (bz md), .ref rPu, .ref rWh, .ref rGi, .ref rDr, .ref rTr, .ref rKn, .ref rRo, .int (nI rws), .int (nI sz), .ref rTx])), (rGi, .inl (X.1.2.1, 36, .inl (eb (ub g1 c (some (tx c - 49)))))), (rTx, .inl (X.1.2.1, 60, .inl (nO tx)))]
                        refine r_iinc C dX11_read_115 1 rfl (v := nI (c + 1)) (nI_add _ _) (by decide) [1, 0, 2, 3] (lv' := [(0, .ref rM), (1, .int (nI (c + 1))), (2, .int (nI (tx c - 49))), (3, .int (nI j))]) rfl ?_
                        refine r_goto (tgt := 2) C dX11_read_118 (by decide) ?_
                        have hmy : mayP n N b c (tx c - 49) := ⟨by omega, fun d hd ht e => by
                          by_cases q : d < c
                          · exact hne h28 d (by omega) ht (by rw [hb1 d q]; exact e)
                          · rw [hb0 d (by omega)] at e; cases e⟩
                        refine r_lv [0, 1] (lv' := [(0, .ref rM), (1, .int (nI (c + 1)))]) rfl ?_
                        exact ih2 (c + 1) (ub g1 c (some (tx c - 49))) (ub b c (some (tx c - 49))) (by omega) (by omega) (by rw [hF, show N - c = (N - (c + 1)) + 1 by omega]; exact rdF_s (by omega) (rdB_dg (by omega) hmy)) (all_S (fun d q => by rw [ub_n (by omega), ub_n (by omega)]; exact hb1 d q) (by rw [ub_s, ub_s])) (fun d q => by rw [ub_n (by omega)]; exact hb0 d (by omega)) (val_ub hv1 (fun v e => by cases e; omega))
                      · have h74 : ¬ (c ≤ j) := fun e9 => h74 ((nI_leI (by omega) (by omega)).mpr e9)
                        refine r_iload_n C dX11_read_77 2 rfl rfl ?_
                        refine r_if_lt (tgt := 102) C dX11_read_78 (by decide) (fun h78 => ?_) (fun h78 => ?_)
                        · exact absurd h78 (nI_pos (by omega))
                        · refine r_aload_n C dX11_read_81 0 rfl rfl ?_
                          refine r_get C dX11_read_82 iX11_read_X11 14 fX11_read_27 0 rfl rfl (by decide) rfl ?_
                          refine r_iload_n C dX11_read_85 3 rfl rfl ?_
                          refine r_iald C dX11_read_86 1 rfl (by omega) (by omega) ?_
                          refine r_iload_n C dX11_read_87 2 rfl rfl ?_
                          refine r_icmp_ne (tgt := 102) C dX11_read_88 (by decide) (fun h88 => ?_) (fun h88 => ?_)
                          · refine r_iinc C dX11_read_102 3 rfl (v := nI (j + 1)) (nI_add _ _) (by decide) [1, 2, 3, 0] (lv' := [(0, .ref rM), (1, .int (nI c)), (2, .int (nI (tx c - 49))), (3, .int (nI (j + 1)))]) rfl ?_
                            refine r_goto (tgt := 72) C dX11_read_105 (by decide) ?_
                            exact ih72 (j + 1) (by omega) (by omega) (fun w => all_S (hne w) (fun ht w => h88 (by show eo (g1 j) = nI (tx c - 49); rw [w]; rfl)))
                          · refine r_aload_n C dX11_read_91 0 rfl rfl ?_
                            refine r_iload_n C dX11_read_92 3 rfl rfl ?_
                            refine r_iload_n C dX11_read_93 1 rfl rfl ?_
                            refine r_callV0 (n := 2) (ws' := fun (u : Unit) => [(rM, .inr (12, [.int (nI tn), .int (nI n), .int (nI (n / 2)), .int (nI 2), .int (nI sy), .ref rTh, .int (nI ez), .int la, .int ma, .long x, .ref rTe, .int (bz md), .ref rPu, .ref rWh, .ref rGi, .ref rDr, .ref rTr, .ref rKn, .ref rRo, .int (nI rws), .int (nI sz), .ref rTx])), (rGi, .inl (X.1.2.1, 36, .inl (eb g1))), (rTx, .inl (X.1.2.1, 60, .inl (nO tx)))]) C dX11_read_94 (c_X11_sees (g := X.1) (l := X.2.2.1) (rM := rM) (rTh := rTh) (rTe := rTe) (rPu := rPu) (rWh := rWh) (rGi := rGi) (rDr := rDr) (rTr := rTr) (rKn := rKn) (rRo := rRo) (rTx := rTx) (tn := tn) (n := n) (N := N) (sy := sy) (ez := ez) (la := la) (ma := ma) (x := x) (md := md) (rws := rws) (sz := sz) (a := j) (b := c) (hn := (by first | assumption | omega)) (ha := (by omega)) (hb := (by omega))) gX11_read_X11_sees rfl (by decide +kernel) rfl ⟨Nat.le_of_ble_eq_true rfl, Nat.le_of_ble_eq_true rfl⟩ ⟨rfl, rfl⟩ ⟨Nat.zero_le _, Nat.zero_le _⟩ (rest := []) rfl (Nat.le_of_ble_eq_true rfl) 0 rfl rfl [0] (by decide) rfl (fun u => Eq.trans (b := [rM]) rfl rfl) (fun u => rfl) (fun v u hp => ?_)
                            obtain rfl := hp
                            show RW X 0 0 97 [(0, .ref rM), (1, .int (nI c)), (2, .int (nI (tx c - 49))), (3, .int (nI j))] [.int (bz (j ≠ c ∧ tog n j c))] [(rM, .inr (12, [.int (nI tn), .int (nI n), .int (nI (n / 2)), .int (nI 2), .int (nI sy), .ref rTh, .int (nI ez), .int la, .int ma, .long x, .ref rTe, .int (bz md), .ref rPu, .ref rWh, .ref rGi, .ref rDr, .ref rTr, .ref rKn, .ref rRo, .int (nI rws), .int (nI sz), .ref rTx])), (rGi, .inl (X.1.2.1, 36, .inl (eb g1))), (rTx, .inl (X.1.2.1, 60, .inl (nO tx)))]
                            refine r_if_eq (tgt := 102) C dX11_read_97 (by decide) (fun h97 => ?_) (fun h97 => ?_)
                            · have h97 : ¬ (j ≠ c ∧ tog n j c) := bz_0.mp h97
                              refine r_iinc C dX11_read_102 3 rfl (v := nI (j + 1)) (nI_add _ _) (by decide) [1, 2, 3, 0] (lv' := [(0, .ref rM), (1, .int (nI c)), (2, .int (nI (tx c - 49))), (3, .int (nI (j + 1)))]) rfl ?_
                              refine r_goto (tgt := 72) C dX11_read_105 (by decide) ?_
                              exact ih72 (j + 1) (by omega) (by omega) (fun w => all_S (hne w) (fun ht _ => h97 ⟨by omega, tog_sym ht⟩))
                            · have h97 : j ≠ c ∧ tog n j c := bz_n0.mp h97
                              refine r_iload_n C dX11_read_100 1 rfl rfl ?_
                              have hno := rdB_no (n := n) (N := N) (b := b) (c := c) (t := tx c) h28 (fun q => q.2.2 j (by omega) (tog_sym h97.2) (by rw [← hb1 j (by omega)]; exact (eo_eq (by omega) (fun u e => by have := hv1 j u e; omega)).mp h88))
                              have hF0 : rdF n N tx sz N 0 (fun _ => none) = (some c, b) := by
                                rw [hF, show N - c = (N - (c + 1)) + 1 by omega]; exact rdF_no (by omega) hno
                              rw [hF0] at hret
                              exact hret _ _ _ (g1) ⟨rfl, fun w => (by cases w), hv1⟩ (Or.inr ⟨_, rfl, dX11_read_101, Or.inl rfl⟩)
                  exact L72 ((c - 0) + 1) 0 (Nat.lt_succ_self _) (Nat.zero_le _) (fun _ d q => absurd q (Nat.not_lt_zero d))
                · have h65 : ¬ ((tx c - 49) < n) := fun e9 => h65 ((nI_ltI (by omega) (by omega)).mpr e9)
                  refine r_iload_n C dX11_read_68 1 rfl rfl ?_
                  have hno := rdB_no (n := n) (N := N) (b := b) (c := c) (t := tx c) h28 (fun q => absurd q.2.1 (by omega))
                  have hF0 : rdF n N tx sz N 0 (fun _ => none) = (some c, b) := by
                    rw [hF, show N - c = (N - (c + 1)) + 1 by omega]; exact rdF_no (by omega) hno
                  rw [hF0] at hret
                  exact hret _ _ _ (g1) ⟨rfl, fun w => (by cases w), hv1⟩ (Or.inr ⟨_, rfl, dX11_read_69, Or.inl rfl⟩)
          · have h28 : (tx c) = 46 := (nI_eq (by omega) (by omega)).mp h28
            refine r_iconst C dX11_read_31 (v := (-1)) (by decide) ?_
            refine r_goto (tgt := 44) C dX11_read_32 (by decide) ?_
            refine r_istore_n C dX11_read_44 rfl (by decide) [1, 2, 0] (lv' := [(0, .ref rM), (1, .int (nI c)), (2, .int (-1))]) rfl ?_
            refine r_aload_n C dX11_read_45 0 rfl rfl ?_
            refine r_get C dX11_read_46 iX11_read_X11 21 fX11_read_42 0 rfl rfl (by decide) rfl ?_
            refine r_iload_n C dX11_read_49 1 rfl rfl ?_
            refine r_iald C dX11_read_50 2 rfl (by omega) (by omega) ?_
            show RW X 0 0 51 [(0, .ref rM), (1, .int (nI c)), (2, .int (-1))] [.int (nI (tx c))] [(rM, .inr (12, [.int (nI tn), .int (nI n), .int (nI (n / 2)), .int (nI 2), .int (nI sy), .ref rTh, .int (nI ez), .int la, .int ma, .long x, .ref rTe, .int (bz md), .ref rPu, .ref rWh, .ref rGi, .ref rDr, .ref rTr, .ref rKn, .ref rRo, .int (nI rws), .int (nI sz), .ref rTx])), (rGi, .inl (X.1.2.1, 36, .inl (eb g1))), (rTx, .inl (X.1.2.1, 60, .inl (nO tx)))]
            refine r_bipush C dX11_read_51 (v := nI 46) (by decide) ?_
            refine r_icmp_eq (tgt := 70) C dX11_read_53 (by decide) (fun h53 => ?_) (fun h53 => ?_)
            · have h53 : (tx c) = 46 := (nI_eq (by omega) (by omega)).mp h53
              refine r_iconst C dX11_read_70 (v := nI 0) (by decide) ?_
              refine r_istore_n C dX11_read_71 rfl (by decide) [1, 2, 3, 0] (lv' := [(0, .ref rM), (1, .int (nI c)), (2, .int (-1)), (3, .int (nI 0))]) rfl ?_
              have L72 : ∀ (d72 : Nat) (j : Nat), (c - j) < d72 → (j ≤ c) → (¬ tx c = 46 → ∀ d, d < j → tog n c d → g1 d ≠ some (tx c - 49)) → RW X 0 0 72 [(0, .ref rM), (1, .int (nI c)), (2, .int (-1)), (3, .int (nI j))] [] [(rM, .inr (12, [.int (nI tn), .int (nI n), .int (nI (n / 2)), .int (nI 2), .int (nI sy), .ref rTh, .int (nI ez), .int la, .int ma, .long x, .ref rTe, .int (bz md), .ref rPu, .ref rWh, .ref rGi, .ref rDr, .ref rTr, .ref rKn, .ref rRo, .int (nI rws), .int (nI sz), .ref rTx])), (rGi, .inl (X.1.2.1, 36, .inl (eb g1))), (rTx, .inl (X.1.2.1, 60, .inl (nO tx)))] := by
                intro d72
                induction d72 with
                | zero => intro j hd72; exact absurd hd72 (Nat.not_lt_zero _)
                | succ d72 ih72 =>
                  intro j hd72 hj hne
                  refine r_iload_n C dX11_read_72 3 rfl rfl ?_
                  refine r_iload_n C dX11_read_73 1 rfl rfl ?_
                  refine r_icmp_ge (tgt := 108) C dX11_read_74 (by decide) (fun h74 => ?_) (fun h74 => ?_)
                  · have h74 : c ≤ j := (nI_leI (by omega) (by omega)).mp h74
                    refine r_aload_n C dX11_read_108 0 rfl rfl ?_
                    refine r_get C dX11_read_109 iX11_read_X11 14 fX11_read_27 0 rfl rfl (by decide) rfl ?_
                    refine r_iload_n C dX11_read_112 1 rfl rfl ?_
                    refine r_iload_n C dX11_read_113 2 rfl rfl ?_
                    refine r_iast C dX11_read_114 1 rfl (by omega) (by omega) (ws' := [(rM, .inr (12, [.int (nI tn), .int (nI n), .int (nI (n / 2)), .int (nI 2), .int (nI sy), .ref rTh, .int (nI ez), .int la, .int ma, .long x, .ref rTe, .int (bz md), .ref rPu, .ref rWh, .ref rGi, .ref rDr, .ref rTr, .ref rKn, .ref rRo, .int (nI rws), .int (nI sz), .ref rTx])), (rGi, .inl (X.1.2.1, 36, .inl (upd (eb g1) c (-1)))), (rTx, .inl (X.1.2.1, 60, .inl (nO tx)))]) rfl ?_
                    rw [eb_0]
                    show RW X 0 0 115 [(0, .ref rM), (1, .int (nI c)), (2, .int (-1)), (3, .int (nI j))] [] [(rM, .inr (12, [.int (nI tn), .int (nI n), .int (nI (n / 2)), .int (nI 2), .int (nI sy), .ref rTh, .int (nI ez), .int la, .int ma, .long x, .ref rTe, .int (bz md), .ref rPu, .ref rWh, .ref rGi, .ref rDr, .ref rTr, .ref rKn, .ref rRo, .int (nI rws), .int (nI sz), .ref rTx])), (rGi, .inl (X.1.2.1, 36, .inl (eb (ub g1 c none)))), (rTx, .inl (X.1.2.1, 60, .inl (nO tx)))]
                    refine r_iinc C dX11_read_115 1 rfl (v := nI (c + 1)) (nI_add _ _) (by decide) [1, 0, 2, 3] (lv' := [(0, .ref rM), (1, .int (nI (c + 1))), (2, .int (-1)), (3, .int (nI j))]) rfl ?_
                    refine r_goto (tgt := 2) C dX11_read_118 (by decide) ?_
                    refine r_lv [0, 1] (lv' := [(0, .ref rM), (1, .int (nI (c + 1)))]) rfl ?_
                    exact ih2 (c + 1) (ub g1 c none) b (by omega) (by omega) (by rw [hF, show N - c = (N - (c + 1)) + 1 by omega]; exact rdF_s (by omega) (rdB_pt h28)) (all_S (fun d q => by rw [ub_n (by omega)]; exact hb1 d q) (by rw [ub_s, hb0 c (Nat.le_refl c)])) (fun d q => hb0 d (by omega)) (val_ub hv1 (fun v e => by cases e))
                  · have h74 : ¬ (c ≤ j) := fun e9 => h74 ((nI_leI (by omega) (by omega)).mpr e9)
                    refine r_iload_n C dX11_read_77 2 rfl rfl ?_
                    refine r_if_lt (tgt := 102) C dX11_read_78 (by decide) (fun h78 => ?_) (fun h78 => ?_)
                    · refine r_iinc C dX11_read_102 3 rfl (v := nI (j + 1)) (nI_add _ _) (by decide) [1, 2, 3, 0] (lv' := [(0, .ref rM), (1, .int (nI c)), (2, .int (-1)), (3, .int (nI (j + 1)))]) rfl ?_
                      refine r_goto (tgt := 72) C dX11_read_105 (by decide) ?_
                      exact ih72 (j + 1) (by omega) (by omega) (fun w => absurd h28 w)
                    · exact absurd (by decide) h78
              exact L72 ((c - 0) + 1) 0 (Nat.lt_succ_self _) (Nat.zero_le _) (fun _ d q => absurd q (Nat.not_lt_zero d))
            · have h53 : ¬ ((tx c) = 46) := fun e9 => h53 ((nI_eq (by omega) (by omega)).mpr e9)
              exact absurd h28 h53
        · have h15 : ¬ (c < sz) := fun e9 => h15 ((nI_ltI (by omega) (by omega)).mpr e9)
          refine r_iload_n C dX11_read_18 1 rfl rfl ?_
          have hF0 : rdF n N tx sz N 0 (fun _ => none) = (some c, b) := by
            rw [hF, show N - c = (N - (c + 1)) + 1 by omega]; exact rdF_len (by omega)
          rw [hF0] at hret
          exact hret _ _ _ (g1) ⟨rfl, fun w => (by cases w), hv1⟩ (Or.inr ⟨_, rfl, dX11_read_19, Or.inl rfl⟩)
  exact L2 ((N - 0) + 1) 0 gi (fun _ => none) (Nat.lt_succ_self _) (Nat.zero_le _) rfl (fun d q => absurd q (Nat.not_lt_zero d)) (fun _ _ => rfl) hvg
theorem fX11_answers_54 : Cond.fieldLink RX11 54 (TX11 0).1 (TX11 0).2.1 (TX11 0).2.2.1 ∈ wsX11_answers := List.mem_of_getElem? (i := 1) rfl
theorem iX11_answers_X11 : ∀ w ∈ wsX110, w ∈ wsX11_answers := by decide +kernel
theorem fX11_answers_158 : Cond.fieldLink RX11 158 (TX11 20).1 (TX11 20).2.1 (TX11 20).2.2.1 ∈ wsX11_answers := List.mem_of_getElem? (i := 2) rfl
set_option maxHeartbeats 4000000 in
set_option maxRecDepth 100000 in
theorem c_X11_answers {g : ww_G} {l : Launch} {rM : Nat} {rTh : Nat} {rTe : Nat} {rPu : Nat} {rWh : Nat} {rGi : Nat} {rDr : Nat} {rTr : Nat} {rKn : Nat} {rRo : Nat} {rTx : Nat} {tn : Nat} {n : Nat} {N : Nat} {sy : Nat} {ez : Nat} {la : Int32} {ma : Int32} {x : Int64} {md : Prop} {rws : Nat} {sz : Nat} {tx : Nat → Nat} {gi : Nat → Option Nat} {tr : Nat → Option Nat} (hn : (n = 4 ∧ N = 16) ∨ (n = 6 ∧ N = 36)) (hsz : sz ≤ 60) (htx : ∀ j, tx j < 1073741824) (hvg : (∀ c v, gi c = some v → v < n)) (hvt : (∀ c v, tr c = some v → v < n)) : CT g l yX11_answers wsX11_answers (ww_rm 5) [.ref rM] ([(rM, .inr (12, [.int (nI tn), .int (nI n), .int (nI (n / 2)), .int (nI 2), .int (nI sy), .ref rTh, .int (nI ez), .int la, .int ma, .long x, .ref rTe, .int (bz md), .ref rPu, .ref rWh, .ref rGi, .ref rDr, .ref rTr, .ref rKn, .ref rRo, .int (nI rws), .int (nI sz), .ref rTx])), (rGi, .inl (g.2.1, 36, .inl (eb gi))), (rTx, .inl (g.2.1, 60, .inl (nO tx))), (rTr, .inl (g.2.1, 36, .inl (eb tr)))]) (S := Int32 × (Nat → Option Nat) × (Nat → Option Nat)) (fun vv9 u => vv9 = some (.int u.1) ∧ ((rdF n N tx sz N 0 (fun _ => none)).1 = none → u.1 = nI (min 100 (0 + cntS n N (rdF n N tx sz N 0 (fun _ => none)).2))) ∧ (∀ c, (rdF n N tx sz N 0 (fun _ => none)).1 = some c → u.1 = (-1) - nI c) ∧ ((∀ c v, u.2.1 c = some v → v < n)) ∧ ((∀ c v, u.2.2 c = some v → v < n))) (fun u => [(rM, .inr (12, [.int (nI 0), .int (nI n), .int (nI (n / 2)), .int (nI 2), .int (nI sy), .ref rTh, .int (nI ez), .int la, .int ma, .long x, .ref rTe, .int (bz md), .ref rPu, .ref rWh, .ref rGi, .ref rDr, .ref rTr, .ref rKn, .ref rRo, .int (nI rws), .int (nI 0), .ref rTx])), (rGi, .inl (g.2.1, 36, .inl (eb u.2.1))), (rTx, .inl (g.2.1, 60, .inl (nO tx))), (rTr, .inl (g.2.1, 36, .inl (eb u.2.2)))]) := by
  refine CT.of cX11_answers 2 (some .int) RX11 (by decide +kernel) rfl rfl (Nat.le_of_ble_eq_true rfl) ?_
  intro X hg hl C hret
  subst hg; subst hl
  show RW X 0 0 0 [(0, .ref rM)] [] [(rM, .inr (12, [.int (nI tn), .int (nI n), .int (nI (n / 2)), .int (nI 2), .int (nI sy), .ref rTh, .int (nI ez), .int la, .int ma, .long x, .ref rTe, .int (bz md), .ref rPu, .ref rWh, .ref rGi, .ref rDr, .ref rTr, .ref rKn, .ref rRo, .int (nI rws), .int (nI sz), .ref rTx])), (rGi, .inl (X.1.2.1, 36, .inl (eb gi))), (rTx, .inl (X.1.2.1, 60, .inl (nO tx))), (rTr, .inl (X.1.2.1, 36, .inl (eb tr)))]
  refine r_aload_n C dX11_answers_0 0 rfl rfl ?_
  refine r_iconst C dX11_answers_1 (v := nI 0) (by decide) ?_
  refine r_put C dX11_answers_2 iX11_answers_X11 tyX11 tyX11_ok nmX11 0 fX11_answers_54 0 rfl rfl (by decide) rfl rfl rfl rfl (Nat.le_of_ble_eq_true rfl) (ws' := [(rM, .inr (12, [.int (nI 0), .int (nI n), .int (nI (n / 2)), .int (nI 2), .int (nI sy), .ref rTh, .int (nI ez), .int la, .int ma, .long x, .ref rTe, .int (bz md), .ref rPu, .ref rWh, .ref rGi, .ref rDr, .ref rTr, .ref rKn, .ref rRo, .int (nI rws), .int (nI sz), .ref rTx])), (rGi, .inl (X.1.2.1, 36, .inl (eb gi))), (rTx, .inl (X.1.2.1, 60, .inl (nO tx))), (rTr, .inl (X.1.2.1, 36, .inl (eb tr)))]) rfl ?_
  refine r_aload_n C dX11_answers_5 0 rfl rfl ?_
  refine r_callV0 (n := 0) (ws' := fun (u : (Nat → Option Nat)) => [(rM, .inr (12, [.int (nI 0), .int (nI n), .int (nI (n / 2)), .int (nI 2), .int (nI sy), .ref rTh, .int (nI ez), .int la, .int ma, .long x, .ref rTe, .int (bz md), .ref rPu, .ref rWh, .ref rGi, .ref rDr, .ref rTr, .ref rKn, .ref rRo, .int (nI rws), .int (nI sz), .ref rTx])), (rGi, .inl (X.1.2.1, 36, .inl (eb u))), (rTx, .inl (X.1.2.1, 60, .inl (nO tx))), (rTr, .inl (X.1.2.1, 36, .inl (eb tr)))]) C dX11_answers_6 (c_X11_read (g := X.1) (l := X.2.2.1) (rM := rM) (rTh := rTh) (rTe := rTe) (rPu := rPu) (rWh := rWh) (rGi := rGi) (rDr := rDr) (rTr := rTr) (rKn := rKn) (rRo := rRo) (rTx := rTx) (tn := 0) (n := n) (N := N) (sy := sy) (ez := ez) (la := la) (ma := ma) (x := x) (md := md) (rws := rws) (sz := sz) (tx := tx) (gi := gi) (hn := (by first | assumption | omega)) (hsz := (by first | assumption | omega)) (htx := (by first | assumption | omega)) (hvg := (by first | assumption | omega))) gX11_answers_X11_read rfl (by decide +kernel) rfl ⟨Nat.le_of_ble_eq_true rfl, Nat.le_of_ble_eq_true rfl⟩ ⟨rfl, rfl⟩ ⟨Nat.zero_le _, Nat.zero_le _⟩ (rest := []) rfl (Nat.le_of_ble_eq_true rfl) 0 rfl rfl [0, 1, 2] (by decide) rfl (fun u => Eq.trans (b := [rM, rGi, rTx]) rfl rfl) (fun u => rfl) (fun v u hp => ?_)
  obtain ⟨g5, rfl⟩ : ∃ z, z = u := ⟨_, rfl⟩
  obtain ⟨rfl, p6_0, p6_1⟩ := hp
  show RW X 0 0 9 [(0, .ref rM)] [.int (eo (rdF n N tx sz N 0 (fun _ => none)).1)] [(rM, .inr (12, [.int (nI 0), .int (nI n), .int (nI (n / 2)), .int (nI 2), .int (nI sy), .ref rTh, .int (nI ez), .int la, .int ma, .long x, .ref rTe, .int (bz md), .ref rPu, .ref rWh, .ref rGi, .ref rDr, .ref rTr, .ref rKn, .ref rRo, .int (nI rws), .int (nI sz), .ref rTx])), (rGi, .inl (X.1.2.1, 36, .inl (eb g5))), (rTx, .inl (X.1.2.1, 60, .inl (nO tx))), (rTr, .inl (X.1.2.1, 36, .inl (eb tr)))]
  refine r_istore_n C dX11_answers_9 rfl (by decide) [1, 0] (lv' := [(0, .ref rM), (1, .int (eo (rdF n N tx sz N 0 (fun _ => none)).1))]) rfl ?_
  refine r_aload_n C dX11_answers_10 0 rfl rfl ?_
  refine r_iconst C dX11_answers_11 (v := nI 0) (by decide) ?_
  refine r_put C dX11_answers_12 iX11_answers_X11 tyX11 tyX11_ok nmX11 20 fX11_answers_158 0 rfl rfl (by decide) rfl rfl rfl rfl (Nat.le_of_ble_eq_true rfl) (ws' := [(rM, .inr (12, [.int (nI 0), .int (nI n), .int (nI (n / 2)), .int (nI 2), .int (nI sy), .ref rTh, .int (nI ez), .int la, .int ma, .long x, .ref rTe, .int (bz md), .ref rPu, .ref rWh, .ref rGi, .ref rDr, .ref rTr, .ref rKn, .ref rRo, .int (nI rws), .int (nI 0), .ref rTx])), (rGi, .inl (X.1.2.1, 36, .inl (eb g5))), (rTx, .inl (X.1.2.1, 60, .inl (nO tx))), (rTr, .inl (X.1.2.1, 36, .inl (eb tr)))]) rfl ?_
  refine r_iload_n C dX11_answers_15 1 rfl rfl ?_
  refine r_if_lt (tgt := 25) C dX11_answers_16 (by decide) (fun h16 => ?_) (fun h16 => ?_)
  · have hz : (rdF n N tx sz N 0 (fun _ => none)).1 = none := eo_none h16 (n := 61) (fun v e => rdF_lt hn hsz e) (by omega)
    have hce : cntS n N g5 = cntS n N (rdF n N tx sz N 0 (fun _ => none)).2 := cntS_ext (p6_0 hz)
    refine r_aload_n C dX11_answers_25 0 rfl rfl ?_
    refine r_bipush C dX11_answers_26 (v := nI 100) (by decide) ?_
    refine r_callV0 (n := 1) (ws' := fun (u : (Nat → Option Nat)) => [(rM, .inr (12, [.int (nI 0), .int (nI n), .int (nI (n / 2)), .int (nI 2), .int (nI sy), .ref rTh, .int (nI ez), .int la, .int ma, .long x, .ref rTe, .int (bz md), .ref rPu, .ref rWh, .ref rGi, .ref rDr, .ref rTr, .ref rKn, .ref rRo, .int (nI rws), .int (nI 0), .ref rTx])), (rGi, .inl (X.1.2.1, 36, .inl (eb g5))), (rTx, .inl (X.1.2.1, 60, .inl (nO tx))), (rTr, .inl (X.1.2.1, 36, .inl (eb u)))]) C dX11_answers_28 (c_X11_countUpTo (g := X.1) (l := X.2.2.1) (rM := rM) (rTh := rTh) (rTe := rTe) (rPu := rPu) (rWh := rWh) (rGi := rGi) (rDr := rDr) (rTr := rTr) (rKn := rKn) (rRo := rRo) (rTx := rTx) (tn := 0) (n := n) (N := N) (sy := sy) (ez := ez) (la := la) (ma := ma) (x := x) (md := md) (rws := rws) (sz := 0) (tr0 := tr) (gi := g5) (most := 100) (hn := (by first | assumption | omega)) (hm0 := (by omega)) (hm1 := (by omega)) (hvt0 := hvt) (hvg := p6_1)) gX11_answers_X11_countUpTo rfl (by decide +kernel) rfl ⟨Nat.le_of_ble_eq_true rfl, Nat.le_of_ble_eq_true rfl⟩ ⟨rfl, rfl⟩ ⟨Nat.zero_le _, Nat.zero_le _⟩ (rest := []) rfl (Nat.le_of_ble_eq_true rfl) 0 rfl rfl [0, 3, 1] (by decide) rfl (fun u => Eq.trans (b := [rM, rTr, rGi]) rfl rfl) (fun u => rfl) (fun v u hp => ?_)
    obtain ⟨t5, rfl⟩ : ∃ z, z = u := ⟨_, rfl⟩
    obtain ⟨rfl, p28_0⟩ := hp
    show RW X 0 0 31 [(0, .ref rM), (1, .int (eo (rdF n N tx sz N 0 (fun _ => none)).1))] [.int (nI (min 100 (0 + cntS n N g5)))] [(rM, .inr (12, [.int (nI 0), .int (nI n), .int (nI (n / 2)), .int (nI 2), .int (nI sy), .ref rTh, .int (nI ez), .int la, .int ma, .long x, .ref rTe, .int (bz md), .ref rPu, .ref rWh, .ref rGi, .ref rDr, .ref rTr, .ref rKn, .ref rRo, .int (nI rws), .int (nI 0), .ref rTx])), (rGi, .inl (X.1.2.1, 36, .inl (eb g5))), (rTx, .inl (X.1.2.1, 60, .inl (nO tx))), (rTr, .inl (X.1.2.1, 36, .inl (eb t5)))]
    refine r_top (y := nI (min 100 (0 + cntS n N (rdF n N tx sz N 0 (fun _ => none)).2))) (by rw [hce]) ?_
    exact hret _ _ _ (nI (min 100 (0 + cntS n N (rdF n N tx sz N 0 (fun _ => none)).2)), g5, t5) ⟨rfl, fun _ => rfl, fun c e => (by rw [hz] at e; cases e), p6_1, p28_0⟩ (Or.inr ⟨_, rfl, dX11_answers_31, Or.inl rfl⟩)
  · obtain ⟨c, hz⟩ := eo_some h16
    refine r_lv [0, 1] (lv' := [(0, .ref rM), (1, .int (nI c))]) (by rw [hz]; rfl) ?_
    refine r_iconst C dX11_answers_19 (v := (-1)) (by decide) ?_
    refine r_iload_n C dX11_answers_20 1 rfl rfl ?_
    refine r_isub C dX11_answers_21 (v := (-1) - (nI c)) rfl ?_
    refine r_goto (tgt := 31) C dX11_answers_22 (by decide) ?_
    exact hret _ _ _ ((-1) - nI c, g5, tr) ⟨rfl, fun e => (by rw [hz] at e; cases e), fun c2 e => (by rw [hz] at e; cases e; rfl), p6_1, hvt⟩ (Or.inr ⟨_, rfl, dX11_answers_31, Or.inl rfl⟩)
theorem fX11_text_54 : Cond.fieldLink RX11 54 (TX11 0).1 (TX11 0).2.1 (TX11 0).2.2.1 ∈ wsX11_text := List.mem_of_getElem? (i := 1) rfl
theorem iX11_text_X11 : ∀ w ∈ wsX110, w ∈ wsX11_text := by decide +kernel
theorem fX11_text_148 : Cond.fieldLink RX11 148 (TX11 11).1 (TX11 11).2.1 (TX11 11).2.2.1 ∈ wsX11_text := List.mem_of_getElem? (i := 2) rfl
theorem fX11_text_21 : Cond.fieldLink RX11 21 (TX11 12).1 (TX11 12).2.1 (TX11 12).2.2.1 ∈ wsX11_text := List.mem_of_getElem? (i := 3) rfl
set_option maxHeartbeats 4000000 in
set_option maxRecDepth 100000 in
theorem c_X11_text {g : ww_G} {l : Launch} {rM : Nat} {rTh : Nat} {rTe : Nat} {rPu : Nat} {rWh : Nat} {rGi : Nat} {rDr : Nat} {rTr : Nat} {rKn : Nat} {rRo : Nat} {rTx : Nat} {tn : Nat} {n : Nat} {N : Nat} {sy : Nat} {ez : Nat} {la : Int32} {ma : Int32} {x : Int64} {md : Prop} {rws : Nat} {sz : Nat} {pu : Nat → Option Nat} {ii : Int32} (hn : (n = 4 ∧ N = 16) ∨ (n = 6 ∧ N = 36)) (hvp : md → (∀ c v, pu c = some v → v < n)) : CT g l yX11_text wsX11_text (ww_rm 2) [.ref rM, .int ii] ([(rM, .inr (12, [.int (nI tn), .int (nI n), .int (nI (n / 2)), .int (nI 2), .int (nI sy), .ref rTh, .int (nI ez), .int la, .int ma, .long x, .ref rTe, .int (bz md), .ref rPu, .ref rWh, .ref rGi, .ref rDr, .ref rTr, .ref rKn, .ref rRo, .int (nI rws), .int (nI sz), .ref rTx])), (rPu, .inl (g.2.1, 36, .inl (eb pu)))]) (S := Int32) (fun vv9 u => vv9 = some (.int u) ∧ (∀ j, j < N → ii = nI j → md → u = nI (bto (pu j))) ∧ (¬ (md ∧ ∃ j, j < N ∧ ii = nI j) → u = -1)) (fun u => [(rM, .inr (12, [.int (nI 0), .int (nI n), .int (nI (n / 2)), .int (nI 2), .int (nI sy), .ref rTh, .int (nI ez), .int la, .int ma, .long x, .ref rTe, .int (bz md), .ref rPu, .ref rWh, .ref rGi, .ref rDr, .ref rTr, .ref rKn, .ref rRo, .int (nI rws), .int (nI sz), .ref rTx])), (rPu, .inl (g.2.1, 36, .inl (eb pu)))]) := by
  refine CT.of cX11_text 2 (some .int) RX11 (by decide +kernel) rfl rfl (Nat.le_of_ble_eq_true rfl) ?_
  intro X hg hl C hret
  subst hg; subst hl
  show RW X 0 0 0 [(0, .ref rM), (1, .int ii)] [] [(rM, .inr (12, [.int (nI tn), .int (nI n), .int (nI (n / 2)), .int (nI 2), .int (nI sy), .ref rTh, .int (nI ez), .int la, .int ma, .long x, .ref rTe, .int (bz md), .ref rPu, .ref rWh, .ref rGi, .ref rDr, .ref rTr, .ref rKn, .ref rRo, .int (nI rws), .int (nI sz), .ref rTx])), (rPu, .inl (X.1.2.1, 36, .inl (eb pu)))]
  refine r_aload_n C dX11_text_0 0 rfl rfl ?_
  refine r_iconst C dX11_text_1 (v := nI 0) (by decide) ?_
  refine r_put C dX11_text_2 iX11_text_X11 tyX11 tyX11_ok nmX11 0 fX11_text_54 0 rfl rfl (by decide) rfl rfl rfl rfl (Nat.le_of_ble_eq_true rfl) (ws' := [(rM, .inr (12, [.int (nI 0), .int (nI n), .int (nI (n / 2)), .int (nI 2), .int (nI sy), .ref rTh, .int (nI ez), .int la, .int ma, .long x, .ref rTe, .int (bz md), .ref rPu, .ref rWh, .ref rGi, .ref rDr, .ref rTr, .ref rKn, .ref rRo, .int (nI rws), .int (nI sz), .ref rTx])), (rPu, .inl (X.1.2.1, 36, .inl (eb pu)))]) rfl ?_
  refine r_aload_n C dX11_text_5 0 rfl rfl ?_
  refine r_get C dX11_text_6 iX11_text_X11 11 fX11_text_148 0 rfl rfl (by decide) rfl ?_
  refine r_if_eq (tgt := 24) C dX11_text_9 (by decide) (fun h9 => ?_) (fun h9 => ?_)
  · have h9 : ¬ (md) := bz_0.mp h9
    refine r_iconst C dX11_text_24 (v := (-1)) (by decide) ?_
    exact hret _ _ _ ((-1)) ⟨rfl, fun j q e w => absurd w h9, fun _ => rfl⟩ (Or.inr ⟨_, rfl, dX11_text_25, Or.inl rfl⟩)
  · have h9 : md := bz_n0.mp h9
    refine r_iload_n C dX11_text_12 1 rfl rfl ?_
    refine r_if_lt (tgt := 24) C dX11_text_13 (by decide) (fun h13 => ?_) (fun h13 => ?_)
    · refine r_iconst C dX11_text_24 (v := (-1)) (by decide) ?_
      exact hret _ _ _ ((-1)) ⟨rfl, fun j q e w => absurd ⟨j, q, e⟩ (rg_lo (M := N) (by omega) h13), fun _ => rfl⟩ (Or.inr ⟨_, rfl, dX11_text_25, Or.inl rfl⟩)
    · refine r_iload_n C dX11_text_16 1 rfl rfl ?_
      refine r_aload_n C dX11_text_17 0 rfl rfl ?_
      refine r_callV0 (n := 0) (ws' := fun (u : Unit) => [(rM, .inr (12, [.int (nI 0), .int (nI n), .int (nI (n / 2)), .int (nI 2), .int (nI sy), .ref rTh, .int (nI ez), .int la, .int ma, .long x, .ref rTe, .int (bz md), .ref rPu, .ref rWh, .ref rGi, .ref rDr, .ref rTr, .ref rKn, .ref rRo, .int (nI rws), .int (nI sz), .ref rTx])), (rPu, .inl (X.1.2.1, 36, .inl (eb pu)))]) C dX11_text_18 (c_X11_cells (g := X.1) (l := X.2.2.1) (rM := rM) (rTh := rTh) (rTe := rTe) (rPu := rPu) (rWh := rWh) (rGi := rGi) (rDr := rDr) (rTr := rTr) (rKn := rKn) (rRo := rRo) (rTx := rTx) (tn := 0) (n := n) (N := N) (sy := sy) (ez := ez) (la := la) (ma := ma) (x := x) (md := md) (rws := rws) (sz := sz) (hn := (by first | assumption | omega))) gX11_text_X11_cells rfl (by decide +kernel) rfl ⟨Nat.le_of_ble_eq_true rfl, Nat.le_of_ble_eq_true rfl⟩ ⟨rfl, rfl⟩ ⟨Nat.zero_le _, Nat.zero_le _⟩ (rest := [.int ii]) rfl (Nat.le_of_ble_eq_true rfl) 0 rfl rfl [0] (by decide) rfl (fun u => Eq.trans (b := [rM]) rfl rfl) (fun u => rfl) (fun v u hp => ?_)
      obtain rfl := hp
      show RW X 0 0 21 [(0, .ref rM), (1, .int ii)] [.int (nI N), .int ii] [(rM, .inr (12, [.int (nI 0), .int (nI n), .int (nI (n / 2)), .int (nI 2), .int (nI sy), .ref rTh, .int (nI ez), .int la, .int ma, .long x, .ref rTe, .int (bz md), .ref rPu, .ref rWh, .ref rGi, .ref rDr, .ref rTr, .ref rKn, .ref rRo, .int (nI rws), .int (nI sz), .ref rTx])), (rPu, .inl (X.1.2.1, 36, .inl (eb pu)))]
      refine r_icmp_lt (tgt := 26) C dX11_text_21 (by decide) (fun h21 => ?_) (fun h21 => ?_)
      · obtain ⟨j, hj, rfl⟩ := hasT h13 (Int32.not_le.mpr h21) (by omega)
        refine r_aload_n C dX11_text_26 0 rfl rfl ?_
        refine r_get C dX11_text_27 iX11_text_X11 12 fX11_text_21 0 rfl rfl (by decide) rfl ?_
        refine r_iload_n C dX11_text_30 1 rfl rfl ?_
        refine r_iald C dX11_text_31 1 rfl (by omega) (by omega) ?_
        refine r_if_ge (tgt := 40) C dX11_text_32 (by decide) (fun h32 => ?_) (fun h32 => ?_)
        · refine r_bipush C dX11_text_40 (v := nI 49) (by decide) ?_
          refine r_aload_n C dX11_text_42 0 rfl rfl ?_
          refine r_get C dX11_text_43 iX11_text_X11 12 fX11_text_21 0 rfl rfl (by decide) rfl ?_
          refine r_iload_n C dX11_text_46 1 rfl rfl ?_
          refine r_iald C dX11_text_47 1 rfl (by omega) (by omega) ?_
          refine r_iadd C dX11_text_48 (v := nI 49 + eo (pu j)) rfl ?_
          exact hret _ _ _ (nI 49 + eo (pu j)) ⟨rfl, fun j2 q e _ => by
                    have a : j = j2 := (nI_eq (by omega) (by omega)).mp e
                    subst a; obtain ⟨v, hv⟩ := eo_some (Int32.not_lt.mpr h32); show nI 49 + eo (pu j) = nI (bto (pu j)); rw [hv]; exact nI_add 49 v, fun w => absurd ⟨h9, j, hj, rfl⟩ w⟩ (Or.inr ⟨_, rfl, dX11_text_49, Or.inl rfl⟩)
        · refine r_bipush C dX11_text_35 (v := nI 46) (by decide) ?_
          refine r_goto (tgt := 49) C dX11_text_37 (by decide) ?_
          exact hret _ _ _ (nI 46) ⟨rfl, fun j2 q e _ => by
                    have a : j = j2 := (nI_eq (by omega) (by omega)).mp e
                    subst a; show nI 46 = nI (bto (pu j)); rw [eo_none (Int32.not_le.mp h32) (hvp h9 j) (by omega)]; rfl, fun w => absurd ⟨h9, j, hj, rfl⟩ w⟩ (Or.inr ⟨_, rfl, dX11_text_49, Or.inl rfl⟩)
      · refine r_iconst C dX11_text_24 (v := (-1)) (by decide) ?_
        exact hret _ _ _ ((-1)) ⟨rfl, fun j q e w => absurd (by rw [e]; exact (nI_ltI (by omega) (by omega)).mpr q) h21, fun _ => rfl⟩ (Or.inr ⟨_, rfl, dX11_text_25, Or.inl rfl⟩)
