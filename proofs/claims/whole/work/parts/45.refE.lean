theorem pdI_s {c : Nat} (h : 0 < c) : pdI c = nI (c - 1) := by
  cases c with
  | zero => omega
  | succ k => rfl
theorem fit_c {c : Nat} {t1 tr gi : Nat → Option Nat} (h : ∀ j, j < c → t1 j = tr j) (d : Nat) : (if d < c then t1 d else gi d) = (if d < c then tr d else gi d) := by
  by_cases q : d < c
  · rw [if_pos q, if_pos q]; exact h d q
  · rw [if_neg q, if_neg q]
theorem fX11_countUpTo_33 : Cond.fieldLink RX11 33 (TX11 16).1 (TX11 16).2.1 (TX11 16).2.2.1 ∈ wsX11_countUpTo := List.mem_of_getElem? (i := 3) rfl
theorem iX11_countUpTo_X11 : ∀ w ∈ wsX110, w ∈ wsX11_countUpTo := by decide +kernel
theorem fX11_countUpTo_27 : Cond.fieldLink RX11 27 (TX11 14).1 (TX11 14).2.1 (TX11 14).2.2.1 ∈ wsX11_countUpTo := List.mem_of_getElem? (i := 1) rfl
theorem fX11_countUpTo_45 : Cond.fieldLink RX11 45 (TX11 1).1 (TX11 1).2.1 (TX11 1).2.2.1 ∈ wsX11_countUpTo := List.mem_of_getElem? (i := 2) rfl
set_option maxHeartbeats 4000000 in
set_option maxRecDepth 100000 in
theorem c_X11_countUpTo {g : ww_G} {l : Launch} {rM : Nat} {rTh : Nat} {rTe : Nat} {rPu : Nat} {rWh : Nat} {rGi : Nat} {rDr : Nat} {rTr : Nat} {rKn : Nat} {rRo : Nat} {rTx : Nat} {tn : Nat} {n : Nat} {N : Nat} {sy : Nat} {ez : Nat} {la : Int32} {ma : Int32} {x : Int64} {md : Prop} {rws : Nat} {sz : Nat} {tr0 : Nat → Option Nat} {gi : Nat → Option Nat} {most : Nat} (hn : (n = 4 ∧ N = 16) ∨ (n = 6 ∧ N = 36)) (hm0 : 0 < most) (hm1 : most < 1073741824) (hvt0 : (∀ c v, tr0 c = some v → v < n)) (hvg : (∀ c v, gi c = some v → v < n)) : CT g l yX11_countUpTo wsX11_countUpTo (ww_rm 3) [.ref rM, .int (nI most)] ([(rM, .inr (12, [.int (nI tn), .int (nI n), .int (nI (n / 2)), .int (nI 2), .int (nI sy), .ref rTh, .int (nI ez), .int la, .int ma, .long x, .ref rTe, .int (bz md), .ref rPu, .ref rWh, .ref rGi, .ref rDr, .ref rTr, .ref rKn, .ref rRo, .int (nI rws), .int (nI sz), .ref rTx])), (rTr, .inl (g.2.1, 36, .inl (eb tr0))), (rGi, .inl (g.2.1, 36, .inl (eb gi)))]) (S := (Nat → Option Nat)) (fun vv9 u => vv9 = some (.int (nI (min most (0 + cntS n N gi)))) ∧ (∀ c v, u c = some v → v < n)) (fun u => [(rM, .inr (12, [.int (nI tn), .int (nI n), .int (nI (n / 2)), .int (nI 2), .int (nI sy), .ref rTh, .int (nI ez), .int la, .int ma, .long x, .ref rTe, .int (bz md), .ref rPu, .ref rWh, .ref rGi, .ref rDr, .ref rTr, .ref rKn, .ref rRo, .int (nI rws), .int (nI sz), .ref rTx])), (rTr, .inl (g.2.1, 36, .inl (eb u))), (rGi, .inl (g.2.1, 36, .inl (eb gi)))]) := by
  refine CT.of cX11_countUpTo 7 (some .int) RX11 (by decide +kernel) rfl rfl (Nat.le_of_ble_eq_true rfl) ?_
  intro X hg hl C hret
  subst hg; subst hl
  show RW X 0 0 0 [(0, .ref rM), (1, .int (nI most))] [] [(rM, .inr (12, [.int (nI tn), .int (nI n), .int (nI (n / 2)), .int (nI 2), .int (nI sy), .ref rTh, .int (nI ez), .int la, .int ma, .long x, .ref rTe, .int (bz md), .ref rPu, .ref rWh, .ref rGi, .ref rDr, .ref rTr, .ref rKn, .ref rRo, .int (nI rws), .int (nI sz), .ref rTx])), (rTr, .inl (X.1.2.1, 36, .inl (eb tr0))), (rGi, .inl (X.1.2.1, 36, .inl (eb gi)))]
  refine r_iconst C dX11_countUpTo_0 (v := nI 0) (by decide) ?_
  refine r_istore_n C dX11_countUpTo_1 rfl (by decide) [1, 2, 0] (lv' := [(0, .ref rM), (1, .int (nI most)), (2, .int (nI 0))]) rfl ?_
  refine r_iconst C dX11_countUpTo_2 (v := nI 0) (by decide) ?_
  refine r_istore_n C dX11_countUpTo_3 rfl (by decide) [1, 2, 3, 0] (lv' := [(0, .ref rM), (1, .int (nI most)), (2, .int (nI 0)), (3, .int (nI 0))]) rfl ?_
  refine r_iconst C dX11_countUpTo_4 (v := nI 1) (by decide) ?_
  refine r_istore C dX11_countUpTo_5 (by decide) [1, 2, 3, 4, 0] (lv' := [(0, .ref rM), (1, .int (nI most)), (2, .int (nI 0)), (3, .int (nI 0)), (4, .int (nI 1))]) rfl ?_
  have hdone : ∀ (F : Nat) (c0 : Int32) (o5 : Nat) (tr1 : Nat → Option Nat), F = min most (0 + cntS n N gi) → (∀ c v, tr1 c = some v → v < n) → RW X 0 0 181 [(0, .ref rM), (1, .int (nI most)), (2, .int (nI F)), (3, .int c0), (4, .int (nI o5))] [] [(rM, .inr (12, [.int (nI tn), .int (nI n), .int (nI (n / 2)), .int (nI 2), .int (nI sy), .ref rTh, .int (nI ez), .int la, .int ma, .long x, .ref rTe, .int (bz md), .ref rPu, .ref rWh, .ref rGi, .ref rDr, .ref rTr, .ref rKn, .ref rRo, .int (nI rws), .int (nI sz), .ref rTx])), (rTr, .inl (X.1.2.1, 36, .inl (eb tr1))), (rGi, .inl (X.1.2.1, 36, .inl (eb gi)))] := by
    intro F c0 o5 tr1 hF hv1
    refine r_iload_n C dX11_countUpTo_181 2 rfl rfl ?_
    refine r_top (y := nI (min most (0 + cntS n N gi))) (congrArg nI hF) ?_
    exact hret _ _ _ (tr1) ⟨rfl, hv1⟩ (Or.inr ⟨_, rfl, dX11_countUpTo_182, Or.inl rfl⟩)
  have hfull : ∀ (F c0 o5 : Nat) (tr1 : Nat → Option Nat), c0 ≤ N → F = min most (0 + cntS n N gi) → (∀ c v, tr1 c = some v → v < n) → most ≤ F → RW X 0 0 7 [(0, .ref rM), (1, .int (nI most)), (2, .int (nI F)), (3, .int (nI c0)), (4, .int (nI o5))] [] [(rM, .inr (12, [.int (nI tn), .int (nI n), .int (nI (n / 2)), .int (nI 2), .int (nI sy), .ref rTh, .int (nI ez), .int la, .int ma, .long x, .ref rTe, .int (bz md), .ref rPu, .ref rWh, .ref rGi, .ref rDr, .ref rTr, .ref rKn, .ref rRo, .int (nI rws), .int (nI sz), .ref rTx])), (rTr, .inl (X.1.2.1, 36, .inl (eb tr1))), (rGi, .inl (X.1.2.1, 36, .inl (eb gi)))] := by
    intro F c0 o5 tr1 hc0 hF hv1 hmF
    refine r_iload_n C dX11_countUpTo_7 3 rfl rfl ?_
    refine r_if_lt (tgt := 181) C dX11_countUpTo_8 (by decide) (fun h8 => ?_) (fun h8 => ?_)
    · exact absurd h8 (nI_pos (by omega))
    · refine r_iload_n C dX11_countUpTo_11 2 rfl rfl ?_
      refine r_iload_n C dX11_countUpTo_12 1 rfl rfl ?_
      refine r_icmp_ge (tgt := 181) C dX11_countUpTo_13 (by decide) (fun h13 => ?_) (fun h13 => ?_)
      · have h13 : most ≤ F := (nI_leI (by omega) (by omega)).mp h13
        exact hdone F (nI c0) o5 tr1 hF hv1
      · have h13 : ¬ (most ≤ F) := fun e9 => h13 ((nI_leI (by omega) (by omega)).mpr e9)
        exact absurd hmF h13
  have hneg : ∀ (F o5 : Nat) (tr1 : Nat → Option Nat), F = min most (0 + cntS n N gi) → (∀ c v, tr1 c = some v → v < n) → RW X 0 0 7 [(0, .ref rM), (1, .int (nI most)), (2, .int (nI F)), (3, .int (-1)), (4, .int (nI o5))] [] [(rM, .inr (12, [.int (nI tn), .int (nI n), .int (nI (n / 2)), .int (nI 2), .int (nI sy), .ref rTh, .int (nI ez), .int la, .int ma, .long x, .ref rTe, .int (bz md), .ref rPu, .ref rWh, .ref rGi, .ref rDr, .ref rTr, .ref rKn, .ref rRo, .int (nI rws), .int (nI sz), .ref rTx])), (rTr, .inl (X.1.2.1, 36, .inl (eb tr1))), (rGi, .inl (X.1.2.1, 36, .inl (eb gi)))] := by
    intro F o5 tr1 hF hv1
    refine r_iload_n C dX11_countUpTo_7 3 rfl rfl ?_
    refine r_if_lt (tgt := 181) C dX11_countUpTo_8 (by decide) (fun h8 => ?_) (fun h8 => ?_)
    · exact hdone F (-1) o5 tr1 hF hv1
    · exact absurd (by decide) h8
  have main : ∀ (d c : Nat) (tr : Nat → Option Nat) (F : Nat), N - c = d → c ≤ N → (∀ c v, tr c = some v → v < n) → preT n gi tr c → F < most → (∀ (t2 : Nat → Option Nat), (∀ c v, t2 c = some v → v < n) → (∀ j, j < c → t2 j = tr j) → F + cnP n N gi tr c < most → RW X 0 0 7 [(0, .ref rM), (1, .int (nI most)), (2, .int (nI (F + cnP n N gi tr c))), (3, .int (pdI c)), (4, .int (nI 0))] [] [(rM, .inr (12, [.int (nI tn), .int (nI n), .int (nI (n / 2)), .int (nI 2), .int (nI sy), .ref rTh, .int (nI ez), .int la, .int ma, .long x, .ref rTe, .int (bz md), .ref rPu, .ref rWh, .ref rGi, .ref rDr, .ref rTr, .ref rKn, .ref rRo, .int (nI rws), .int (nI sz), .ref rTx])), (rTr, .inl (X.1.2.1, 36, .inl (eb t2))), (rGi, .inl (X.1.2.1, 36, .inl (eb gi)))]) → (∀ (t2 : Nat → Option Nat) (c2 : Nat), c2 ≤ N → (∀ c v, t2 c = some v → v < n) → most ≤ F + cnP n N gi tr c → RW X 0 0 7 [(0, .ref rM), (1, .int (nI most)), (2, .int (nI most)), (3, .int (nI c2)), (4, .int (nI 0))] [] [(rM, .inr (12, [.int (nI tn), .int (nI n), .int (nI (n / 2)), .int (nI 2), .int (nI sy), .ref rTh, .int (nI ez), .int la, .int ma, .long x, .ref rTe, .int (bz md), .ref rPu, .ref rWh, .ref rGi, .ref rDr, .ref rTr, .ref rKn, .ref rRo, .int (nI rws), .int (nI sz), .ref rTx])), (rTr, .inl (X.1.2.1, 36, .inl (eb t2))), (rGi, .inl (X.1.2.1, 36, .inl (eb gi)))]) → RW X 0 0 7 [(0, .ref rM), (1, .int (nI most)), (2, .int (nI F)), (3, .int (nI c)), (4, .int (nI 1))] [] [(rM, .inr (12, [.int (nI tn), .int (nI n), .int (nI (n / 2)), .int (nI 2), .int (nI sy), .ref rTh, .int (nI ez), .int la, .int ma, .long x, .ref rTe, .int (bz md), .ref rPu, .ref rWh, .ref rGi, .ref rDr, .ref rTr, .ref rKn, .ref rRo, .int (nI rws), .int (nI sz), .ref rTx])), (rTr, .inl (X.1.2.1, 36, .inl (eb tr))), (rGi, .inl (X.1.2.1, 36, .inl (eb gi)))] := by
    intro d
    induction d with
    | zero =>
      intro c tr F hd hcN hvt hp hF hcont hful
      obtain rfl : N = c := by omega
      refine r_iload_n C dX11_countUpTo_7 3 rfl rfl ?_
      refine r_if_lt (tgt := 181) C dX11_countUpTo_8 (by decide) (fun h8 => ?_) (fun h8 => ?_)
      · exact absurd h8 (nI_pos (by omega))
      · refine r_iload_n C dX11_countUpTo_11 2 rfl rfl ?_
        refine r_iload_n C dX11_countUpTo_12 1 rfl rfl ?_
        refine r_icmp_ge (tgt := 181) C dX11_countUpTo_13 (by decide) (fun h13 => ?_) (fun h13 => ?_)
        · have h13 : most ≤ F := (nI_leI (by omega) (by omega)).mp h13
          exact absurd h13 (by omega)
        · have h13 : ¬ (most ≤ F) := fun e9 => h13 ((nI_leI (by omega) (by omega)).mpr e9)
          refine r_iload_n C dX11_countUpTo_16 3 rfl rfl ?_
          refine r_aload_n C dX11_countUpTo_17 0 rfl rfl ?_
          refine r_callV0 (n := 0) (ws' := fun (u : Unit) => [(rM, .inr (12, [.int (nI tn), .int (nI n), .int (nI (n / 2)), .int (nI 2), .int (nI sy), .ref rTh, .int (nI ez), .int la, .int ma, .long x, .ref rTe, .int (bz md), .ref rPu, .ref rWh, .ref rGi, .ref rDr, .ref rTr, .ref rKn, .ref rRo, .int (nI rws), .int (nI sz), .ref rTx])), (rTr, .inl (X.1.2.1, 36, .inl (eb tr))), (rGi, .inl (X.1.2.1, 36, .inl (eb gi)))]) C dX11_countUpTo_18 (c_X11_cells (g := X.1) (l := X.2.2.1) (rM := rM) (rTh := rTh) (rTe := rTe) (rPu := rPu) (rWh := rWh) (rGi := rGi) (rDr := rDr) (rTr := rTr) (rKn := rKn) (rRo := rRo) (rTx := rTx) (tn := tn) (n := n) (N := N) (sy := sy) (ez := ez) (la := la) (ma := ma) (x := x) (md := md) (rws := rws) (sz := sz) (hn := (by first | assumption | omega))) gX11_countUpTo_X11_cells rfl (by decide +kernel) rfl ⟨Nat.le_of_ble_eq_true rfl, Nat.le_of_ble_eq_true rfl⟩ ⟨rfl, rfl⟩ ⟨Nat.zero_le _, Nat.zero_le _⟩ (rest := [.int (nI N)]) rfl (Nat.le_of_ble_eq_true rfl) 0 rfl rfl [0] (by decide) rfl (fun u => Eq.trans (b := [rM]) rfl rfl) (fun u => rfl) (fun v u hp => ?_)
          obtain rfl := hp
          show RW X 0 0 21 [(0, .ref rM), (1, .int (nI most)), (2, .int (nI F)), (3, .int (nI N)), (4, .int (nI 1))] [.int (nI N), .int (nI N)] [(rM, .inr (12, [.int (nI tn), .int (nI n), .int (nI (n / 2)), .int (nI 2), .int (nI sy), .ref rTh, .int (nI ez), .int la, .int ma, .long x, .ref rTe, .int (bz md), .ref rPu, .ref rWh, .ref rGi, .ref rDr, .ref rTr, .ref rKn, .ref rRo, .int (nI rws), .int (nI sz), .ref rTx])), (rTr, .inl (X.1.2.1, 36, .inl (eb tr))), (rGi, .inl (X.1.2.1, 36, .inl (eb gi)))]
          refine r_icmp_ne (tgt := 36) C dX11_countUpTo_21 (by decide) (fun h21 => ?_) (fun h21 => ?_)
          · have h21 : ¬ (N = N) := fun e9 => h21 ((nI_eq (by omega) (by omega)).mpr e9)
            exact absurd rfl h21
          · have h21 : N = N := (nI_eq (by omega) (by omega)).mp h21
            refine r_iinc C dX11_countUpTo_24 2 rfl (v := nI (F + 1)) (nI_add _ _) (by decide) [1, 2, 0, 3, 4] (lv' := [(0, .ref rM), (1, .int (nI most)), (2, .int (nI (F + 1))), (3, .int (nI N)), (4, .int (nI 1))]) rfl ?_
            refine r_iconst C dX11_countUpTo_27 (v := nI 0) (by decide) ?_
            refine r_istore C dX11_countUpTo_28 (by decide) [1, 2, 3, 4, 0] (lv' := [(0, .ref rM), (1, .int (nI most)), (2, .int (nI (F + 1))), (3, .int (nI N)), (4, .int (nI 0))]) rfl ?_
            refine r_iinc C dX11_countUpTo_30 3 rfl (v := pdI N) (pdI_b N) (by decide) [1, 2, 3, 0, 4] (lv' := [(0, .ref rM), (1, .int (nI most)), (2, .int (nI (F + 1))), (3, .int (pdI N)), (4, .int (nI 0))]) rfl ?_
            refine r_goto (tgt := 7) C dX11_countUpTo_33 (by decide) ?_
            have hc1 := cnP_N hp
            by_cases hlt : F + 1 < most
            · have h9 := hcont tr hvt (fun _ _ => rfl) (by rw [hc1]; exact hlt)
              rw [hc1] at h9; exact h9
            · have h9 := hful tr (N - 1) (by omega) hvt (by omega)
              rw [show F + 1 = most by omega, pdI_s (show 0 < N by omega)]; exact h9
    | succ d ih =>
      intro c tr F hd hcN hvt hp hF hcont hful
      have hc : c < N := by omega
      have inn : ∀ (k s lst : Nat) (t1 : Nat → Option Nat) (F1 on : Nat), lst + 1 - s = k → lst < n → s ≤ n → (gi c = none → lst = n - 1) → (∀ g, gi c = some g → lst = g ∧ g ≤ s) → (∀ c v, t1 c = some v → v < n) → (∀ j, j < c → t1 j = tr j) → F1 < most → F1 + sfS n N gi tr c s = F + cnP n N gi tr c → RW X 0 0 111 [(0, .ref rM), (1, .int (nI most)), (2, .int (nI F1)), (3, .int (nI c)), (4, .int (nI on)), (5, .int (nI s)), (6, .int (nI lst))] [] [(rM, .inr (12, [.int (nI tn), .int (nI n), .int (nI (n / 2)), .int (nI 2), .int (nI sy), .ref rTh, .int (nI ez), .int la, .int ma, .long x, .ref rTe, .int (bz md), .ref rPu, .ref rWh, .ref rGi, .ref rDr, .ref rTr, .ref rKn, .ref rRo, .int (nI rws), .int (nI sz), .ref rTx])), (rTr, .inl (X.1.2.1, 36, .inl (eb t1))), (rGi, .inl (X.1.2.1, 36, .inl (eb gi)))] := by
        intro k
        induction k with
        | zero =>
          intro s lst t1 F1 on hk hla hsn hla0 hla1 hv1 ha1 hF1 hsum
          refine r_iload C dX11_countUpTo_111 5 rfl ?_
          refine r_iload C dX11_countUpTo_113 6 rfl ?_
          refine r_icmp_gt (tgt := 134) C dX11_countUpTo_115 (by decide) (fun h115 => ?_) (fun h115 => ?_)
          · have h115 : lst < s := (nI_ltI (by omega) (by omega)).mp h115
            refine r_iload C dX11_countUpTo_134 5 rfl ?_
            refine r_iload C dX11_countUpTo_136 6 rfl ?_
            refine r_icmp_gt (tgt := 145) C dX11_countUpTo_138 (by decide) (fun h138 => ?_) (fun h138 => ?_)
            · have h138 : lst < s := (nI_ltI (by omega) (by omega)).mp h138
              refine r_iconst C dX11_countUpTo_145 (v := nI 0) (by decide) ?_
              refine r_istore C dX11_countUpTo_146 (by decide) [1, 2, 3, 4, 0, 5, 6] (lv' := [(0, .ref rM), (1, .int (nI most)), (2, .int (nI F1)), (3, .int (nI c)), (4, .int (nI 0)), (5, .int (nI s)), (6, .int (nI lst))]) rfl ?_
              refine r_aload_n C dX11_countUpTo_148 0 rfl rfl ?_
              refine r_get C dX11_countUpTo_149 iX11_countUpTo_X11 16 fX11_countUpTo_33 0 rfl rfl (by decide) rfl ?_
              refine r_iload_n C dX11_countUpTo_152 3 rfl rfl ?_
              refine r_iload C dX11_countUpTo_153 4 rfl ?_
              refine r_if_eq (tgt := 163) C dX11_countUpTo_155 (by decide) (fun h155 => ?_) (fun h155 => ?_)
              · have h155 : 0 = 0 := (nI_eq (b := 0) (by omega) (by omega)).mp h155
                refine r_iconst C dX11_countUpTo_163 (v := (-1)) (by decide) ?_
                refine r_iast C dX11_countUpTo_164 1 rfl (by omega) (by omega) (ws' := [(rM, .inr (12, [.int (nI tn), .int (nI n), .int (nI (n / 2)), .int (nI 2), .int (nI sy), .ref rTh, .int (nI ez), .int la, .int ma, .long x, .ref rTe, .int (bz md), .ref rPu, .ref rWh, .ref rGi, .ref rDr, .ref rTr, .ref rKn, .ref rRo, .int (nI rws), .int (nI sz), .ref rTx])), (rTr, .inl (X.1.2.1, 36, .inl (upd (eb t1) c (-1)))), (rGi, .inl (X.1.2.1, 36, .inl (eb gi)))]) rfl ?_
                rw [eb_0]
                show RW X 0 0 165 [(0, .ref rM), (1, .int (nI most)), (2, .int (nI F1)), (3, .int (nI c)), (4, .int (nI 0)), (5, .int (nI s)), (6, .int (nI lst))] [] [(rM, .inr (12, [.int (nI tn), .int (nI n), .int (nI (n / 2)), .int (nI 2), .int (nI sy), .ref rTh, .int (nI ez), .int la, .int ma, .long x, .ref rTe, .int (bz md), .ref rPu, .ref rWh, .ref rGi, .ref rDr, .ref rTr, .ref rKn, .ref rRo, .int (nI rws), .int (nI sz), .ref rTx])), (rTr, .inl (X.1.2.1, 36, .inl (eb (ub t1 c none)))), (rGi, .inl (X.1.2.1, 36, .inl (eb gi)))]
                refine r_iload_n C dX11_countUpTo_165 3 rfl rfl ?_
                refine r_iload C dX11_countUpTo_166 4 rfl ?_
                refine r_if_eq (tgt := 175) C dX11_countUpTo_168 (by decide) (fun h168 => ?_) (fun h168 => ?_)
                · have h168 : 0 = 0 := (nI_eq (b := 0) (by omega) (by omega)).mp h168
                  refine r_iconst C dX11_countUpTo_175 (v := (-1)) (by decide) ?_
                  refine r_iadd C dX11_countUpTo_176 (v := pdI c) (pdI_a c) ?_
                  refine r_istore_n C dX11_countUpTo_177 rfl (by decide) [1, 2, 3, 0, 4, 5, 6] (lv' := [(0, .ref rM), (1, .int (nI most)), (2, .int (nI F1)), (3, .int (pdI c)), (4, .int (nI 0)), (5, .int (nI s)), (6, .int (nI lst))]) rfl ?_
                  refine r_goto (tgt := 7) C dX11_countUpTo_178 (by decide) ?_
                  refine r_lv [0, 1, 2, 3, 4] (lv' := [(0, .ref rM), (1, .int (nI most)), (2, .int (nI F1)), (3, .int (pdI c)), (4, .int (nI 0))]) rfl ?_
                  have hz : sfS n N gi tr c s = 0 := sfS_0 (fun v hv hlv => by
                    cases hgc : gi c with
                    | none => have := hla0 hgc; omega
                    | some g => exact cnP_g hc hgc (by have := hla1 g hgc; omega))
                  have e1 : F1 = F + cnP n N gi tr c := by omega
                  rw [e1]
                  exact hcont (ub t1 c none) (val_ub hv1 (fun v e => by cases e)) (fun j q => by rw [ub_n (by omega)]; exact ha1 j q) (by omega)
                · have h168 : ¬ (0 = 0) := fun e9 => h168 ((nI_eq (b := 0) (by omega) (by omega)).mpr e9)
                  exact absurd rfl h168
              · have h155 : ¬ (0 = 0) := fun e9 => h155 ((nI_eq (b := 0) (by omega) (by omega)).mpr e9)
                exact absurd rfl h155
            · have h138 : ¬ (lst < s) := fun e9 => h138 ((nI_ltI (by omega) (by omega)).mpr e9)
              exact absurd h138 (by omega)
          · have h115 : ¬ (lst < s) := fun e9 => h115 ((nI_ltI (by omega) (by omega)).mpr e9)
            exact absurd h115 (by omega)
        | succ k ihk =>
          intro s lst t1 F1 on hk hla hsn hla0 hla1 hv1 ha1 hF1 hsum
          have hsl : s ≤ lst := by omega
          have hS := sfS_S (n := n) (N := N) (c := c) (gi := gi) (tr := tr) (show s < n by omega)
          refine r_iload C dX11_countUpTo_111 5 rfl ?_
          refine r_iload C dX11_countUpTo_113 6 rfl ?_
          refine r_icmp_gt (tgt := 134) C dX11_countUpTo_115 (by decide) (fun h115 => ?_) (fun h115 => ?_)
          · have h115 : lst < s := (nI_ltI (by omega) (by omega)).mp h115
            exact absurd h115 (by omega)
          · have h115 : ¬ (lst < s) := fun e9 => h115 ((nI_ltI (by omega) (by omega)).mpr e9)
            refine r_aload_n C dX11_countUpTo_118 0 rfl rfl ?_
            refine r_iload_n C dX11_countUpTo_119 3 rfl rfl ?_
            refine r_iload C dX11_countUpTo_120 5 rfl ?_
            refine r_callV0 (n := 2) (ws' := fun (u : Unit) => [(rM, .inr (12, [.int (nI tn), .int (nI n), .int (nI (n / 2)), .int (nI 2), .int (nI sy), .ref rTh, .int (nI ez), .int la, .int ma, .long x, .ref rTe, .int (bz md), .ref rPu, .ref rWh, .ref rGi, .ref rDr, .ref rTr, .ref rKn, .ref rRo, .int (nI rws), .int (nI sz), .ref rTx])), (rTr, .inl (X.1.2.1, 36, .inl (eb t1))), (rGi, .inl (X.1.2.1, 36, .inl (eb gi)))]) C dX11_countUpTo_122 (c_X11_fits (g := X.1) (l := X.2.2.1) (rM := rM) (rTh := rTh) (rTe := rTe) (rPu := rPu) (rWh := rWh) (rGi := rGi) (rDr := rDr) (rTr := rTr) (rKn := rKn) (rRo := rRo) (rTx := rTx) (tn := tn) (n := n) (N := N) (sy := sy) (ez := ez) (la := la) (ma := ma) (x := x) (md := md) (rws := rws) (sz := sz) (tr := t1) (gi := gi) (c := c) (v := s) (hn := (by first | assumption | omega)) (hc := hc) (hv := (by omega)) (hvt := hv1) (hvg := hvg)) gX11_countUpTo_X11_fits rfl (by decide +kernel) rfl ⟨Nat.le_of_ble_eq_true rfl, Nat.le_of_ble_eq_true rfl⟩ ⟨rfl, rfl⟩ ⟨Nat.zero_le _, Nat.zero_le _⟩ (rest := []) rfl (Nat.le_of_ble_eq_true rfl) 0 rfl rfl [0, 1, 2] (by decide) rfl (fun u => Eq.trans (b := [rM, rTr, rGi]) rfl rfl) (fun u => rfl) (fun v u hp => ?_)
            obtain rfl := hp
            show RW X 0 0 125 [(0, .ref rM), (1, .int (nI most)), (2, .int (nI F1)), (3, .int (nI c)), (4, .int (nI on)), (5, .int (nI s)), (6, .int (nI lst))] [.int (bz (∀ d, d < N → (if d < c then t1 d else gi d) = some s → ¬ (d ≠ c ∧ tog n d c)))] [(rM, .inr (12, [.int (nI tn), .int (nI n), .int (nI (n / 2)), .int (nI 2), .int (nI sy), .ref rTh, .int (nI ez), .int la, .int ma, .long x, .ref rTe, .int (bz md), .ref rPu, .ref rWh, .ref rGi, .ref rDr, .ref rTr, .ref rKn, .ref rRo, .int (nI rws), .int (nI sz), .ref rTx])), (rTr, .inl (X.1.2.1, 36, .inl (eb t1))), (rGi, .inl (X.1.2.1, 36, .inl (eb gi)))]
            refine r_if_ne (tgt := 134) C dX11_countUpTo_125 (by decide) (fun h125 => ?_) (fun h125 => ?_)
            · have h125 : ∀ d, d < N → (if d < c then t1 d else gi d) = some s → ¬ (d ≠ c ∧ tog n d c) := bz_n0.mp h125
              refine r_iload C dX11_countUpTo_134 5 rfl ?_
              refine r_iload C dX11_countUpTo_136 6 rfl ?_
              refine r_icmp_gt (tgt := 145) C dX11_countUpTo_138 (by decide) (fun h138 => ?_) (fun h138 => ?_)
              · have h138 : lst < s := (nI_ltI (by omega) (by omega)).mp h138
                exact absurd h138 (by omega)
              · have h138 : ¬ (lst < s) := fun e9 => h138 ((nI_ltI (by omega) (by omega)).mpr e9)
                refine r_iconst C dX11_countUpTo_141 (v := nI 1) (by decide) ?_
                refine r_goto (tgt := 146) C dX11_countUpTo_142 (by decide) ?_
                refine r_istore C dX11_countUpTo_146 (by decide) [1, 2, 3, 4, 0, 5, 6] (lv' := [(0, .ref rM), (1, .int (nI most)), (2, .int (nI F1)), (3, .int (nI c)), (4, .int (nI 1)), (5, .int (nI s)), (6, .int (nI lst))]) rfl ?_
                refine r_aload_n C dX11_countUpTo_148 0 rfl rfl ?_
                refine r_get C dX11_countUpTo_149 iX11_countUpTo_X11 16 fX11_countUpTo_33 0 rfl rfl (by decide) rfl ?_
                refine r_iload_n C dX11_countUpTo_152 3 rfl rfl ?_
                refine r_iload C dX11_countUpTo_153 4 rfl ?_
                refine r_if_eq (tgt := 163) C dX11_countUpTo_155 (by decide) (fun h155 => ?_) (fun h155 => ?_)
                · have h155 : 1 = 0 := (nI_eq (b := 0) (by omega) (by omega)).mp h155
                  exact absurd h155 (by omega)
                · have h155 : ¬ (1 = 0) := fun e9 => h155 ((nI_eq (b := 0) (by omega) (by omega)).mpr e9)
                  refine r_iload C dX11_countUpTo_158 5 rfl ?_
                  refine r_goto (tgt := 164) C dX11_countUpTo_160 (by decide) ?_
                  refine r_iast C dX11_countUpTo_164 1 rfl (by omega) (by omega) (ws' := [(rM, .inr (12, [.int (nI tn), .int (nI n), .int (nI (n / 2)), .int (nI 2), .int (nI sy), .ref rTh, .int (nI ez), .int la, .int ma, .long x, .ref rTe, .int (bz md), .ref rPu, .ref rWh, .ref rGi, .ref rDr, .ref rTr, .ref rKn, .ref rRo, .int (nI rws), .int (nI sz), .ref rTx])), (rTr, .inl (X.1.2.1, 36, .inl (upd (eb t1) c (nI s)))), (rGi, .inl (X.1.2.1, 36, .inl (eb gi)))]) rfl ?_
                  rw [eb_s]
                  show RW X 0 0 165 [(0, .ref rM), (1, .int (nI most)), (2, .int (nI F1)), (3, .int (nI c)), (4, .int (nI 1)), (5, .int (nI s)), (6, .int (nI lst))] [] [(rM, .inr (12, [.int (nI tn), .int (nI n), .int (nI (n / 2)), .int (nI 2), .int (nI sy), .ref rTh, .int (nI ez), .int la, .int ma, .long x, .ref rTe, .int (bz md), .ref rPu, .ref rWh, .ref rGi, .ref rDr, .ref rTr, .ref rKn, .ref rRo, .int (nI rws), .int (nI sz), .ref rTx])), (rTr, .inl (X.1.2.1, 36, .inl (eb (ub t1 c (some s))))), (rGi, .inl (X.1.2.1, 36, .inl (eb gi)))]
                  refine r_iload_n C dX11_countUpTo_165 3 rfl rfl ?_
                  refine r_iload C dX11_countUpTo_166 4 rfl ?_
                  refine r_if_eq (tgt := 175) C dX11_countUpTo_168 (by decide) (fun h168 => ?_) (fun h168 => ?_)
                  · have h168 : 1 = 0 := (nI_eq (b := 0) (by omega) (by omega)).mp h168
                    exact absurd h168 (by omega)
                  · have h168 : ¬ (1 = 0) := fun e9 => h168 ((nI_eq (b := 0) (by omega) (by omega)).mpr e9)
                    refine r_iconst C dX11_countUpTo_171 (v := nI 1) (by decide) ?_
                    refine r_goto (tgt := 176) C dX11_countUpTo_172 (by decide) ?_
                    refine r_iadd C dX11_countUpTo_176 (v := nI (c + 1)) (nI_add _ _) ?_
                    refine r_istore_n C dX11_countUpTo_177 rfl (by decide) [1, 2, 3, 0, 4, 5, 6] (lv' := [(0, .ref rM), (1, .int (nI most)), (2, .int (nI F1)), (3, .int (nI (c + 1))), (4, .int (nI 1)), (5, .int (nI s)), (6, .int (nI lst))]) rfl ?_
                    refine r_goto (tgt := 7) C dX11_countUpTo_178 (by decide) ?_
                    refine r_lv [0, 1, 2, 3, 4] (lv' := [(0, .ref rM), (1, .int (nI most)), (2, .int (nI F1)), (3, .int (nI (c + 1))), (4, .int (nI 1))]) rfl ?_
                    have hf2 : ∀ d, d < N → (if d < c then tr d else gi d) = some s → ¬ (d ≠ c ∧ tog n d c) := fun d hd e => h125 d hd (by rw [fit_c ha1 d]; exact e)
                    have hcg : cnP n N gi (ub t1 c (some s)) (c + 1) = cnP n N gi (ub tr c (some s)) (c + 1) := cnP_congr (fun j q => by
                      by_cases e : j = c
                      · subst e; rw [ub_s, ub_s]
                      · rw [ub_n e, ub_n e]; exact ha1 j (by omega))
                    have hgs : ∀ g, gi c = some g → s = g := fun g hg => by have := hla1 g hg; omega
                    refine ih (c + 1) (ub t1 c (some s)) F1 (by omega) (by omega) (val_ub hv1 (fun v e => by cases e; omega)) (preT_congr (tr := ub tr c (some s)) (fun j q => by
                      by_cases e : j = c
                      · subst e; rw [ub_s, ub_s]
                      · rw [ub_n e, ub_n e]; exact ha1 j (by omega)) (preT_S hc hp (by omega) hgs hf2)) hF1 ?_ ?_
                    · intro t2 hv2 ha2 hlt
                      rw [hcg] at hlt ⊢
                      have ht2 : t2 c = some s := by rw [ha2 c (by omega), ub_s]
                      have ha3 : ∀ j, j < c → t2 j = tr j := fun j q => by rw [ha2 j (by omega), ub_n (by omega)]; exact ha1 j q
                      show RW X 0 0 7 [(0, .ref rM), (1, .int (nI most)), (2, .int (nI (F1 + cnP n N gi (ub tr c (some s)) (c + 1)))), (3, .int (nI c)), (4, .int (nI 0))] [] [(rM, .inr (12, [.int (nI tn), .int (nI n), .int (nI (n / 2)), .int (nI 2), .int (nI sy), .ref rTh, .int (nI ez), .int la, .int ma, .long x, .ref rTe, .int (bz md), .ref rPu, .ref rWh, .ref rGi, .ref rDr, .ref rTr, .ref rKn, .ref rRo, .int (nI rws), .int (nI sz), .ref rTx])), (rTr, .inl (X.1.2.1, 36, .inl (eb t2))), (rGi, .inl (X.1.2.1, 36, .inl (eb gi)))]
                      refine r_iload_n C dX11_countUpTo_7 3 rfl rfl ?_
                      refine r_if_lt (tgt := 181) C dX11_countUpTo_8 (by decide) (fun h8 => ?_) (fun h8 => ?_)
                      · exact absurd h8 (nI_pos (by omega))
                      · refine r_iload_n C dX11_countUpTo_11 2 rfl rfl ?_
                        refine r_iload_n C dX11_countUpTo_12 1 rfl rfl ?_
                        refine r_icmp_ge (tgt := 181) C dX11_countUpTo_13 (by decide) (fun h13 => ?_) (fun h13 => ?_)
                        · have h13 : most ≤ (F1 + cnP n N gi (ub tr c (some s)) (c + 1)) := (nI_leI (by omega) (by omega)).mp h13
                          exact absurd h13 (by omega)
                        · have h13 : ¬ (most ≤ (F1 + cnP n N gi (ub tr c (some s)) (c + 1))) := fun e9 => h13 ((nI_leI (by omega) (by omega)).mpr e9)
                          refine r_iload_n C dX11_countUpTo_16 3 rfl rfl ?_
                          refine r_aload_n C dX11_countUpTo_17 0 rfl rfl ?_
                          refine r_callV0 (n := 0) (ws' := fun (u : Unit) => [(rM, .inr (12, [.int (nI tn), .int (nI n), .int (nI (n / 2)), .int (nI 2), .int (nI sy), .ref rTh, .int (nI ez), .int la, .int ma, .long x, .ref rTe, .int (bz md), .ref rPu, .ref rWh, .ref rGi, .ref rDr, .ref rTr, .ref rKn, .ref rRo, .int (nI rws), .int (nI sz), .ref rTx])), (rTr, .inl (X.1.2.1, 36, .inl (eb t2))), (rGi, .inl (X.1.2.1, 36, .inl (eb gi)))]) C dX11_countUpTo_18 (c_X11_cells (g := X.1) (l := X.2.2.1) (rM := rM) (rTh := rTh) (rTe := rTe) (rPu := rPu) (rWh := rWh) (rGi := rGi) (rDr := rDr) (rTr := rTr) (rKn := rKn) (rRo := rRo) (rTx := rTx) (tn := tn) (n := n) (N := N) (sy := sy) (ez := ez) (la := la) (ma := ma) (x := x) (md := md) (rws := rws) (sz := sz) (hn := (by first | assumption | omega))) gX11_countUpTo_X11_cells rfl (by decide +kernel) rfl ⟨Nat.le_of_ble_eq_true rfl, Nat.le_of_ble_eq_true rfl⟩ ⟨rfl, rfl⟩ ⟨Nat.zero_le _, Nat.zero_le _⟩ (rest := [.int (nI c)]) rfl (Nat.le_of_ble_eq_true rfl) 0 rfl rfl [0] (by decide) rfl (fun u => Eq.trans (b := [rM]) rfl rfl) (fun u => rfl) (fun v u hp => ?_)
                          obtain rfl := hp
                          show RW X 0 0 21 [(0, .ref rM), (1, .int (nI most)), (2, .int (nI (F1 + cnP n N gi (ub tr c (some s)) (c + 1)))), (3, .int (nI c)), (4, .int (nI 0))] [.int (nI N), .int (nI c)] [(rM, .inr (12, [.int (nI tn), .int (nI n), .int (nI (n / 2)), .int (nI 2), .int (nI sy), .ref rTh, .int (nI ez), .int la, .int ma, .long x, .ref rTe, .int (bz md), .ref rPu, .ref rWh, .ref rGi, .ref rDr, .ref rTr, .ref rKn, .ref rRo, .int (nI rws), .int (nI sz), .ref rTx])), (rTr, .inl (X.1.2.1, 36, .inl (eb t2))), (rGi, .inl (X.1.2.1, 36, .inl (eb gi)))]
                          refine r_icmp_ne (tgt := 36) C dX11_countUpTo_21 (by decide) (fun h21 => ?_) (fun h21 => ?_)
                          · have h21 : ¬ (c = N) := fun e9 => h21 ((nI_eq (by omega) (by omega)).mpr e9)
                            refine r_aload_n C dX11_countUpTo_36 0 rfl rfl ?_
                            refine r_get C dX11_countUpTo_37 iX11_countUpTo_X11 14 fX11_countUpTo_27 0 rfl rfl (by decide) rfl ?_
                            refine r_iload_n C dX11_countUpTo_40 3 rfl rfl ?_
                            refine r_iald C dX11_countUpTo_41 2 rfl (by omega) (by omega) ?_
                            refine r_if_lt (tgt := 66) C dX11_countUpTo_42 (by decide) (fun h42 => ?_) (fun h42 => ?_)
                            · have hg0 : gi c = none := eo_none h42 (hvg c) (by omega)
                              refine r_iload C dX11_countUpTo_66 4 rfl ?_
                              refine r_if_eq (tgt := 75) C dX11_countUpTo_68 (by decide) (fun h68 => ?_) (fun h68 => ?_)
                              · have h68 : 0 = 0 := (nI_eq (b := 0) (by omega) (by omega)).mp h68
                                refine r_aload_n C dX11_countUpTo_75 0 rfl rfl ?_
                                refine r_get C dX11_countUpTo_76 iX11_countUpTo_X11 16 fX11_countUpTo_33 0 rfl rfl (by decide) rfl ?_
                                refine r_iload_n C dX11_countUpTo_79 3 rfl rfl ?_
                                refine r_iald C dX11_countUpTo_80 1 rfl (by omega) (by omega) ?_
                                refine r_top (y := nI s) (by show eo (t2 c) = nI s; rw [ht2]; rfl) ?_
                                refine r_iconst C dX11_countUpTo_81 (v := nI 1) (by decide) ?_
                                refine r_iadd C dX11_countUpTo_82 (v := nI (s + 1)) (nI_add _ _) ?_
                                refine r_istore C dX11_countUpTo_83 (by decide) [1, 2, 3, 4, 5, 0] (lv' := [(0, .ref rM), (1, .int (nI most)), (2, .int (nI (F1 + cnP n N gi (ub tr c (some s)) (c + 1)))), (3, .int (nI c)), (4, .int (nI 0)), (5, .int (nI (s + 1)))]) rfl ?_
                                refine r_aload_n C dX11_countUpTo_85 0 rfl rfl ?_
                                refine r_get C dX11_countUpTo_86 iX11_countUpTo_X11 14 fX11_countUpTo_27 0 rfl rfl (by decide) rfl ?_
                                refine r_iload_n C dX11_countUpTo_89 3 rfl rfl ?_
                                refine r_iald C dX11_countUpTo_90 2 rfl (by omega) (by omega) ?_
                                refine r_if_lt (tgt := 103) C dX11_countUpTo_91 (by decide) (fun h91 => ?_) (fun h91 => ?_)
                                · refine r_aload_n C dX11_countUpTo_103 0 rfl rfl ?_
                                  refine r_get C dX11_countUpTo_104 iX11_countUpTo_X11 1 fX11_countUpTo_45 0 rfl rfl (by decide) rfl ?_
                                  refine r_iconst C dX11_countUpTo_107 (v := nI 1) (by decide) ?_
                                  refine r_isub C dX11_countUpTo_108 (v := nI (n - 1)) (pk_sub (by omega)) ?_
                                  refine r_istore C dX11_countUpTo_109 (by decide) [1, 2, 3, 4, 5, 6, 0] (lv' := [(0, .ref rM), (1, .int (nI most)), (2, .int (nI (F1 + cnP n N gi (ub tr c (some s)) (c + 1)))), (3, .int (nI c)), (4, .int (nI 0)), (5, .int (nI (s + 1))), (6, .int (nI (n - 1)))]) rfl ?_
                                  exact ihk (s + 1) (n - 1) t2 (F1 + cnP n N gi (ub tr c (some s)) (c + 1)) 0 (by have := hla0 hg0; omega) (by omega) (by omega) (fun _ => rfl) (fun g hg => by rw [hg0] at hg; cases hg) hv2 ha3 hlt (by omega)
                                · exact absurd h42 h91
                              · have h68 : ¬ (0 = 0) := fun e9 => h68 ((nI_eq (b := 0) (by omega) (by omega)).mpr e9)
                                exact absurd rfl h68
                            · obtain ⟨g, hg⟩ := eo_some h42
                              have hgn0 := hvg c g hg
                              refine r_iload C dX11_countUpTo_45 4 rfl ?_
                              refine r_if_eq (tgt := 59) C dX11_countUpTo_47 (by decide) (fun h47 => ?_) (fun h47 => ?_)
                              · have h47 : 0 = 0 := (nI_eq (b := 0) (by omega) (by omega)).mp h47
                                refine r_aload_n C dX11_countUpTo_59 0 rfl rfl ?_
                                refine r_get C dX11_countUpTo_60 iX11_countUpTo_X11 1 fX11_countUpTo_45 0 rfl rfl (by decide) rfl ?_
                                refine r_goto (tgt := 83) C dX11_countUpTo_63 (by decide) ?_
                                refine r_istore C dX11_countUpTo_83 (by decide) [1, 2, 3, 4, 5, 0] (lv' := [(0, .ref rM), (1, .int (nI most)), (2, .int (nI (F1 + cnP n N gi (ub tr c (some s)) (c + 1)))), (3, .int (nI c)), (4, .int (nI 0)), (5, .int (nI n))]) rfl ?_
                                refine r_aload_n C dX11_countUpTo_85 0 rfl rfl ?_
                                refine r_get C dX11_countUpTo_86 iX11_countUpTo_X11 14 fX11_countUpTo_27 0 rfl rfl (by decide) rfl ?_
                                refine r_iload_n C dX11_countUpTo_89 3 rfl rfl ?_
                                refine r_iald C dX11_countUpTo_90 2 rfl (by omega) (by omega) ?_
                                refine r_if_lt (tgt := 103) C dX11_countUpTo_91 (by decide) (fun h91 => ?_) (fun h91 => ?_)
                                · exact absurd h91 h42
                                · refine r_aload_n C dX11_countUpTo_94 0 rfl rfl ?_
                                  refine r_get C dX11_countUpTo_95 iX11_countUpTo_X11 14 fX11_countUpTo_27 0 rfl rfl (by decide) rfl ?_
                                  refine r_iload_n C dX11_countUpTo_98 3 rfl rfl ?_
                                  refine r_iald C dX11_countUpTo_99 2 rfl (by omega) (by omega) ?_
                                  refine r_top (y := nI g) (by show eo (gi c) = nI g; rw [hg]; rfl) ?_
                                  refine r_goto (tgt := 109) C dX11_countUpTo_100 (by decide) ?_
                                  refine r_istore C dX11_countUpTo_109 (by decide) [1, 2, 3, 4, 5, 6, 0] (lv' := [(0, .ref rM), (1, .int (nI most)), (2, .int (nI (F1 + cnP n N gi (ub tr c (some s)) (c + 1)))), (3, .int (nI c)), (4, .int (nI 0)), (5, .int (nI n)), (6, .int (nI g))]) rfl ?_
                                  have hgl := hla1 g hg
                                  have hz : sfS n N gi tr c (s + 1) = 0 := sfS_0 (fun v hv hlv => cnP_g hc hg (by omega))
                                  have hz2 : sfS n N gi tr c n = 0 := sfS_0 (fun v hv hlv => by omega)
                                  exact ihk n g t2 (F1 + cnP n N gi (ub tr c (some s)) (c + 1)) 0 (by omega) (by omega) (Nat.le_refl n) (fun w => by rw [hg] at w; cases w) (fun g2 hg2 => by rw [hg] at hg2; cases hg2; exact ⟨rfl, by omega⟩) hv2 ha3 hlt (by omega)
                              · have h47 : ¬ (0 = 0) := fun e9 => h47 ((nI_eq (b := 0) (by omega) (by omega)).mpr e9)
                                exact absurd rfl h47
                          · have h21 : c = N := (nI_eq (by omega) (by omega)).mp h21
                            exact absurd h21 (by omega)
                    · intro t2 c2 hc2 hv2 hm2
                      rw [hcg] at hm2
                      exact hful t2 c2 hc2 hv2 (by omega)
            · have h125 : ¬ (∀ d, d < N → (if d < c then t1 d else gi d) = some s → ¬ (d ≠ c ∧ tog n d c)) := bz_0.mp h125
              refine r_iinc C dX11_countUpTo_128 5 rfl (v := nI (s + 1)) (nI_add _ _) (by decide) [1, 2, 3, 4, 5, 0, 6] (lv' := [(0, .ref rM), (1, .int (nI most)), (2, .int (nI F1)), (3, .int (nI c)), (4, .int (nI on)), (5, .int (nI (s + 1))), (6, .int (nI lst))]) rfl ?_
              refine r_goto (tgt := 111) C dX11_countUpTo_131 (by decide) ?_
              have hf2 : ¬ (∀ d, d < N → (if d < c then tr d else gi d) = some s → ¬ (d ≠ c ∧ tog n d c)) := fun w => h125 (fun d hd e => w d hd (by rw [← fit_c ha1 d]; exact e))
              have h0 := cnP_f (n := n) hc hf2
              exact ihk (s + 1) lst t1 F1 on (by omega) hla (by omega) hla0 (fun g hg => ⟨(hla1 g hg).1, by have := (hla1 g hg).2; omega⟩) hv1 ha1 hF1 (by omega)
      refine r_iload_n C dX11_countUpTo_7 3 rfl rfl ?_
      refine r_if_lt (tgt := 181) C dX11_countUpTo_8 (by decide) (fun h8 => ?_) (fun h8 => ?_)
      · exact absurd h8 (nI_pos (by omega))
      · refine r_iload_n C dX11_countUpTo_11 2 rfl rfl ?_
        refine r_iload_n C dX11_countUpTo_12 1 rfl rfl ?_
        refine r_icmp_ge (tgt := 181) C dX11_countUpTo_13 (by decide) (fun h13 => ?_) (fun h13 => ?_)
        · have h13 : most ≤ F := (nI_leI (by omega) (by omega)).mp h13
          exact absurd h13 (by omega)
        · have h13 : ¬ (most ≤ F) := fun e9 => h13 ((nI_leI (by omega) (by omega)).mpr e9)
          refine r_iload_n C dX11_countUpTo_16 3 rfl rfl ?_
          refine r_aload_n C dX11_countUpTo_17 0 rfl rfl ?_
          refine r_callV0 (n := 0) (ws' := fun (u : Unit) => [(rM, .inr (12, [.int (nI tn), .int (nI n), .int (nI (n / 2)), .int (nI 2), .int (nI sy), .ref rTh, .int (nI ez), .int la, .int ma, .long x, .ref rTe, .int (bz md), .ref rPu, .ref rWh, .ref rGi, .ref rDr, .ref rTr, .ref rKn, .ref rRo, .int (nI rws), .int (nI sz), .ref rTx])), (rTr, .inl (X.1.2.1, 36, .inl (eb tr))), (rGi, .inl (X.1.2.1, 36, .inl (eb gi)))]) C dX11_countUpTo_18 (c_X11_cells (g := X.1) (l := X.2.2.1) (rM := rM) (rTh := rTh) (rTe := rTe) (rPu := rPu) (rWh := rWh) (rGi := rGi) (rDr := rDr) (rTr := rTr) (rKn := rKn) (rRo := rRo) (rTx := rTx) (tn := tn) (n := n) (N := N) (sy := sy) (ez := ez) (la := la) (ma := ma) (x := x) (md := md) (rws := rws) (sz := sz) (hn := (by first | assumption | omega))) gX11_countUpTo_X11_cells rfl (by decide +kernel) rfl ⟨Nat.le_of_ble_eq_true rfl, Nat.le_of_ble_eq_true rfl⟩ ⟨rfl, rfl⟩ ⟨Nat.zero_le _, Nat.zero_le _⟩ (rest := [.int (nI c)]) rfl (Nat.le_of_ble_eq_true rfl) 0 rfl rfl [0] (by decide) rfl (fun u => Eq.trans (b := [rM]) rfl rfl) (fun u => rfl) (fun v u hp => ?_)
          obtain rfl := hp
          show RW X 0 0 21 [(0, .ref rM), (1, .int (nI most)), (2, .int (nI F)), (3, .int (nI c)), (4, .int (nI 1))] [.int (nI N), .int (nI c)] [(rM, .inr (12, [.int (nI tn), .int (nI n), .int (nI (n / 2)), .int (nI 2), .int (nI sy), .ref rTh, .int (nI ez), .int la, .int ma, .long x, .ref rTe, .int (bz md), .ref rPu, .ref rWh, .ref rGi, .ref rDr, .ref rTr, .ref rKn, .ref rRo, .int (nI rws), .int (nI sz), .ref rTx])), (rTr, .inl (X.1.2.1, 36, .inl (eb tr))), (rGi, .inl (X.1.2.1, 36, .inl (eb gi)))]
          refine r_icmp_ne (tgt := 36) C dX11_countUpTo_21 (by decide) (fun h21 => ?_) (fun h21 => ?_)
          · have h21 : ¬ (c = N) := fun e9 => h21 ((nI_eq (by omega) (by omega)).mpr e9)
            refine r_aload_n C dX11_countUpTo_36 0 rfl rfl ?_
            refine r_get C dX11_countUpTo_37 iX11_countUpTo_X11 14 fX11_countUpTo_27 0 rfl rfl (by decide) rfl ?_
            refine r_iload_n C dX11_countUpTo_40 3 rfl rfl ?_
            refine r_iald C dX11_countUpTo_41 2 rfl (by omega) (by omega) ?_
            refine r_if_lt (tgt := 66) C dX11_countUpTo_42 (by decide) (fun h42 => ?_) (fun h42 => ?_)
            · have hg0 : gi c = none := eo_none h42 (hvg c) (by omega)
              refine r_iload C dX11_countUpTo_66 4 rfl ?_
              refine r_if_eq (tgt := 75) C dX11_countUpTo_68 (by decide) (fun h68 => ?_) (fun h68 => ?_)
              · have h68 : 1 = 0 := (nI_eq (b := 0) (by omega) (by omega)).mp h68
                exact absurd h68 (by omega)
              · have h68 : ¬ (1 = 0) := fun e9 => h68 ((nI_eq (b := 0) (by omega) (by omega)).mpr e9)
                refine r_iconst C dX11_countUpTo_71 (v := nI 0) (by decide) ?_
                refine r_goto (tgt := 83) C dX11_countUpTo_72 (by decide) ?_
                refine r_istore C dX11_countUpTo_83 (by decide) [1, 2, 3, 4, 5, 0] (lv' := [(0, .ref rM), (1, .int (nI most)), (2, .int (nI F)), (3, .int (nI c)), (4, .int (nI 1)), (5, .int (nI 0))]) rfl ?_
                refine r_aload_n C dX11_countUpTo_85 0 rfl rfl ?_
                refine r_get C dX11_countUpTo_86 iX11_countUpTo_X11 14 fX11_countUpTo_27 0 rfl rfl (by decide) rfl ?_
                refine r_iload_n C dX11_countUpTo_89 3 rfl rfl ?_
                refine r_iald C dX11_countUpTo_90 2 rfl (by omega) (by omega) ?_
                refine r_if_lt (tgt := 103) C dX11_countUpTo_91 (by decide) (fun h91 => ?_) (fun h91 => ?_)
                · refine r_aload_n C dX11_countUpTo_103 0 rfl rfl ?_
                  refine r_get C dX11_countUpTo_104 iX11_countUpTo_X11 1 fX11_countUpTo_45 0 rfl rfl (by decide) rfl ?_
                  refine r_iconst C dX11_countUpTo_107 (v := nI 1) (by decide) ?_
                  refine r_isub C dX11_countUpTo_108 (v := nI (n - 1)) (pk_sub (by omega)) ?_
                  refine r_istore C dX11_countUpTo_109 (by decide) [1, 2, 3, 4, 5, 6, 0] (lv' := [(0, .ref rM), (1, .int (nI most)), (2, .int (nI F)), (3, .int (nI c)), (4, .int (nI 1)), (5, .int (nI 0)), (6, .int (nI (n - 1)))]) rfl ?_
                  exact inn (n - 1 + 1 - 0) 0 (n - 1) tr F 1 rfl (by omega) (by omega) (fun _ => rfl) (fun g hg => by rw [hg0] at hg; cases hg) hvt (fun _ _ => rfl) hF (by rw [sfS_all hc 0 (fun v _ q => absurd q (Nat.not_lt_zero v))])
                · exact absurd h42 h91
            · obtain ⟨g, hg⟩ := eo_some h42
              have hgn0 := hvg c g hg
              refine r_iload C dX11_countUpTo_45 4 rfl ?_
              refine r_if_eq (tgt := 59) C dX11_countUpTo_47 (by decide) (fun h47 => ?_) (fun h47 => ?_)
              · have h47 : 1 = 0 := (nI_eq (b := 0) (by omega) (by omega)).mp h47
                exact absurd h47 (by omega)
              · have h47 : ¬ (1 = 0) := fun e9 => h47 ((nI_eq (b := 0) (by omega) (by omega)).mpr e9)
                refine r_aload_n C dX11_countUpTo_50 0 rfl rfl ?_
                refine r_get C dX11_countUpTo_51 iX11_countUpTo_X11 14 fX11_countUpTo_27 0 rfl rfl (by decide) rfl ?_
                refine r_iload_n C dX11_countUpTo_54 3 rfl rfl ?_
                refine r_iald C dX11_countUpTo_55 2 rfl (by omega) (by omega) ?_
                refine r_top (y := nI g) (by show eo (gi c) = nI g; rw [hg]; rfl) ?_
                refine r_goto (tgt := 83) C dX11_countUpTo_56 (by decide) ?_
                refine r_istore C dX11_countUpTo_83 (by decide) [1, 2, 3, 4, 5, 0] (lv' := [(0, .ref rM), (1, .int (nI most)), (2, .int (nI F)), (3, .int (nI c)), (4, .int (nI 1)), (5, .int (nI g))]) rfl ?_
                refine r_aload_n C dX11_countUpTo_85 0 rfl rfl ?_
                refine r_get C dX11_countUpTo_86 iX11_countUpTo_X11 14 fX11_countUpTo_27 0 rfl rfl (by decide) rfl ?_
                refine r_iload_n C dX11_countUpTo_89 3 rfl rfl ?_
                refine r_iald C dX11_countUpTo_90 2 rfl (by omega) (by omega) ?_
                refine r_if_lt (tgt := 103) C dX11_countUpTo_91 (by decide) (fun h91 => ?_) (fun h91 => ?_)
                · exact absurd h91 h42
                · refine r_aload_n C dX11_countUpTo_94 0 rfl rfl ?_
                  refine r_get C dX11_countUpTo_95 iX11_countUpTo_X11 14 fX11_countUpTo_27 0 rfl rfl (by decide) rfl ?_
                  refine r_iload_n C dX11_countUpTo_98 3 rfl rfl ?_
                  refine r_iald C dX11_countUpTo_99 2 rfl (by omega) (by omega) ?_
                  refine r_top (y := nI g) (by show eo (gi c) = nI g; rw [hg]; rfl) ?_
                  refine r_goto (tgt := 109) C dX11_countUpTo_100 (by decide) ?_
                  refine r_istore C dX11_countUpTo_109 (by decide) [1, 2, 3, 4, 5, 6, 0] (lv' := [(0, .ref rM), (1, .int (nI most)), (2, .int (nI F)), (3, .int (nI c)), (4, .int (nI 1)), (5, .int (nI g)), (6, .int (nI g))]) rfl ?_
                  have hgn := hvg c g hg
                  exact inn (g + 1 - g) g g tr F 1 rfl (by omega) (by omega) (fun w => by rw [hg] at w; cases w) (fun g2 hg2 => by rw [hg] at hg2; cases hg2; exact ⟨rfl, Nat.le_refl _⟩) hvt (fun _ _ => rfl) hF (by rw [sfS_all hc g (fun v _ q => cnP_g hc hg (by omega))])
          · have h21 : c = N := (nI_eq (by omega) (by omega)).mp h21
            exact absurd h21 (by omega)
  refine main (N - 0) 0 tr0 0 rfl (Nat.zero_le N) hvt0 (fun i q => absurd q (Nat.not_lt_zero i)) hm0 (fun t2 hv2 _ hlt => ?_) (fun t2 c2 hc2 hv2 hm2 => ?_)
  · rw [cnP_0] at hlt ⊢
    exact hneg _ 0 t2 (by omega) hv2
  · rw [cnP_0] at hm2
    exact hfull most c2 0 t2 hc2 (by omega) hv2 (Nat.le_refl _)
