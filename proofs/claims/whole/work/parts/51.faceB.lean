noncomputable def tdF (tm rs tk pb : Nat) (md : Prop) (gn un : Nat) (x : Int64) : Nat → Nat := fun j => if j = 0 then tm else if j = 1 then rs else if j = 2 then tk else if j = 3 then pb else if j = 4 then @ite _ md (Classical.propDecidable _) gn 0 else if j = 5 then dI (md ∧ un = 0) else hb x
theorem ts_out {kk : Int32} {m : Nat} (hm : m + 1 < 2147483648) (h : ¬ ∃ j, j < m + 1 ∧ kk = nI j) : kk.toInt < 0 ∨ (m : Int) < kk.toInt := by
  refine Classical.byContradiction (fun w => h ?_)
  refine ⟨kk.toInt.toNat, by omega, ?_⟩
  apply Int32.toInt_inj.mp
  rw [nI_toInt (by omega)]
  omega
theorem rdB_ok {n N c t : Nat} {b b' : Nat → Option Nat} (hok : okB n N b) (h : rdB n N b c t = some b') : okB n N b' := by
  by_cases q : t = 46
  · rw [rdB_pt q] at h; cases h; exact hok
  · by_cases w : 49 ≤ t ∧ mayP n N b c (t - 49)
    · rw [rdB_dg w.1 w.2] at h; cases h; exact okB_put hok w.2
    · rw [rdB_no q w] at h; cases h
theorem rdF_ok0 {n N len : Nat} {ty : Nat → Nat} : ∀ (k c : Nat) (b : Nat → Option Nat), okB n N b → okB n N (rdF n N ty len k c b).2
  | 0, _, _, h => h
  | k + 1, c, b, h => by
    by_cases q : len ≤ c
    · rw [rdF_len q]; exact h
    · cases e : rdB n N b c (ty c) with
      | none => rw [rdF_no q e]; exact h
      | some b2 => rw [rdF_s q e]; exact rdF_ok0 k (c + 1) b2 (rdB_ok h e)
theorem rdF_ok {n N len : Nat} {ty : Nat → Nat} : okB n N (rdF n N ty len N 0 (fun _ => none)).2 := rdF_ok0 N 0 _ (okB_none n N)
theorem fX10_told_47 : Cond.fieldLink RX10 47 (TX10 4).1 (TX10 4).2.1 (TX10 4).2.2.1 ∈ wsX10_told := List.mem_of_getElem? (i := 1) rfl
theorem iX10_told_X10 : ∀ w ∈ wsX100, w ∈ wsX10_told := by decide +kernel
theorem fX10_told_103 : Cond.fieldLink RX10 103 (TX5 14).1 (TX5 14).2.1 (TX5 14).2.2.1 ∈ wsX10_told := List.mem_of_getElem? (i := 2) rfl
theorem iX10_told_X5 : ∀ w ∈ wsX50, w ∈ wsX10_told := by decide +kernel
theorem fX10_told_106 : Cond.fieldLink RX10 106 (TX5 15).1 (TX5 15).2.1 (TX5 15).2.2.1 ∈ wsX10_told := List.mem_of_getElem? (i := 3) rfl
theorem fX10_told_109 : Cond.fieldLink RX10 109 (TX5 16).1 (TX5 16).2.1 (TX5 16).2.2.1 ∈ wsX10_told := List.mem_of_getElem? (i := 4) rfl
theorem fX10_told_112 : Cond.fieldLink RX10 112 (TX5 17).1 (TX5 17).2.1 (TX5 17).2.2.1 ∈ wsX10_told := List.mem_of_getElem? (i := 5) rfl
theorem fX10_told_93 : Cond.fieldLink RX10 93 (TX5 13).1 (TX5 13).2.1 (TX5 13).2.2.1 ∈ wsX10_told := List.mem_of_getElem? (i := 6) rfl
theorem fX10_told_115 : Cond.fieldLink RX10 115 (TX5 18).1 (TX5 18).2.1 (TX5 18).2.2.1 ∈ wsX10_told := List.mem_of_getElem? (i := 7) rfl
theorem fX10_told_118 : Cond.fieldLink RX10 118 (TX5 19).1 (TX5 19).2.1 (TX5 19).2.2.1 ∈ wsX10_told := List.mem_of_getElem? (i := 8) rfl
theorem fX10_told_121 : Cond.fieldLink RX10 121 (TX5 7).1 (TX5 7).2.1 (TX5 7).2.2.1 ∈ wsX10_told := List.mem_of_getElem? (i := 9) rfl
set_option maxHeartbeats 4000000 in
set_option maxRecDepth 100000 in
theorem c_X10_told {g : ww_G} {l : Launch} {n : Nat} {N : Nat} {aG : Nat} {gr : Nat} {gc : Nat} {gb : Nat} {gu : Nat} {aZ : Nat} {aT : Nat} {aE : Nat} {aTh : Nat} {aA : Nat} {aM : Nat} {aD : Nat} {aQ : Nat} {aW : Nat} {aH : Nat} {aWh : Nat} {aGv : Nat} {aMk : Nat} {aRw : Nat} {aWo : Nat} {md : Prop} {tm : Nat} {rs : Nat} {tk : Nat} {pb : Nat} {gn : Nat} {un : Nat} {x : Int64} {ww : Int32} (hun0 : md → un < 2147483648) : CT g l yX10_told wsX10_told (ww_rm 2) [.ref aZ, .int ww] ([(aZ, .inr (11, [.ref aG, .ref aE, .ref aTh, .ref aA, .ref aM, .ref aT])), (aM, .inr (6, [.ref aG, .ref aE, .ref aTh, .ref aA, .ref aD, .ref aQ, .ref aW, .ref aH, .ref aWh, .ref aGv, .ref aMk, .ref aRw, .ref aWo, .int (bz md), .int (nI tm), .int (nI rs), .int (nI tk), .int (nI pb), .int (nI gn), .int (nI un)])), (aH, .inr (3, [.long x]))]) (S := Int32) (fun vv9 u => vv9 = some (.int u) ∧ (∀ j, j < 7 → ww = nI j → u = nI (tdF tm rs tk pb md gn un x j)) ∧ (¬ (∃ j, j < 7 ∧ ww = nI j) → u = -1)) (fun u => [(aZ, .inr (11, [.ref aG, .ref aE, .ref aTh, .ref aA, .ref aM, .ref aT])), (aM, .inr (6, [.ref aG, .ref aE, .ref aTh, .ref aA, .ref aD, .ref aQ, .ref aW, .ref aH, .ref aWh, .ref aGv, .ref aMk, .ref aRw, .ref aWo, .int (bz md), .int (nI tm), .int (nI rs), .int (nI tk), .int (nI pb), .int (nI gn), .int (nI un)])), (aH, .inr (3, [.long x]))]) := by
  refine CT.of cX10_told 2 (some .int) RX10 (by decide +kernel) rfl rfl (Nat.le_of_ble_eq_true rfl) ?_
  intro X hg hl C hret
  subst hg; subst hl
  show RW X 0 0 0 [(0, .ref aZ), (1, .int ww)] [] [(aZ, .inr (11, [.ref aG, .ref aE, .ref aTh, .ref aA, .ref aM, .ref aT])), (aM, .inr (6, [.ref aG, .ref aE, .ref aTh, .ref aA, .ref aD, .ref aQ, .ref aW, .ref aH, .ref aWh, .ref aGv, .ref aMk, .ref aRw, .ref aWo, .int (bz md), .int (nI tm), .int (nI rs), .int (nI tk), .int (nI pb), .int (nI gn), .int (nI un)])), (aH, .inr (3, [.long x]))]
  refine r_iload_n C dX10_told_0 1 rfl rfl ?_
  by_cases hE : ∃ j, j < 7 ∧ ww = nI j
  · obtain ⟨j, hj, rfl⟩ := hE
    rcases (show j = 0 ∨ j = 1 ∨ j = 2 ∨ j = 3 ∨ j = 4 ∨ j = 5 ∨ j = 6 by omega) with rfl | rfl | rfl | rfl | rfl | rfl | rfl
    · refine r_tsIn (tgt := 44) C dX10_told_1 (by decide) (by decide) (off := 43) (by decide) (by decide) ?_
      refine r_aload_n C dX10_told_44 0 rfl rfl ?_
      refine r_get C dX10_told_45 iX10_told_X10 4 fX10_told_47 0 rfl rfl (by decide) rfl ?_
      refine r_get C dX10_told_48 iX10_told_X5 14 fX10_told_103 1 rfl rfl (by decide) rfl ?_
      exact hret _ _ _ (nI tm) ⟨rfl, fun j2 q e => by
                have a : 0 = j2 := (nI_eq (by omega) (by omega)).mp e
                subst a; rfl, fun w => absurd ⟨0, by omega, rfl⟩ w⟩ (Or.inr ⟨_, rfl, dX10_told_51, Or.inl rfl⟩)
    · refine r_tsIn (tgt := 52) C dX10_told_1 (by decide) (by decide) (off := 51) (by decide) (by decide) ?_
      refine r_aload_n C dX10_told_52 0 rfl rfl ?_
      refine r_get C dX10_told_53 iX10_told_X10 4 fX10_told_47 0 rfl rfl (by decide) rfl ?_
      refine r_get C dX10_told_56 iX10_told_X5 15 fX10_told_106 1 rfl rfl (by decide) rfl ?_
      exact hret _ _ _ (nI rs) ⟨rfl, fun j2 q e => by
                have a : 1 = j2 := (nI_eq (by omega) (by omega)).mp e
                subst a; rfl, fun w => absurd ⟨1, by omega, rfl⟩ w⟩ (Or.inr ⟨_, rfl, dX10_told_59, Or.inl rfl⟩)
    · refine r_tsIn (tgt := 60) C dX10_told_1 (by decide) (by decide) (off := 59) (by decide) (by decide) ?_
      refine r_aload_n C dX10_told_60 0 rfl rfl ?_
      refine r_get C dX10_told_61 iX10_told_X10 4 fX10_told_47 0 rfl rfl (by decide) rfl ?_
      refine r_get C dX10_told_64 iX10_told_X5 16 fX10_told_109 1 rfl rfl (by decide) rfl ?_
      exact hret _ _ _ (nI tk) ⟨rfl, fun j2 q e => by
                have a : 2 = j2 := (nI_eq (by omega) (by omega)).mp e
                subst a; rfl, fun w => absurd ⟨2, by omega, rfl⟩ w⟩ (Or.inr ⟨_, rfl, dX10_told_67, Or.inl rfl⟩)
    · refine r_tsIn (tgt := 68) C dX10_told_1 (by decide) (by decide) (off := 67) (by decide) (by decide) ?_
      refine r_aload_n C dX10_told_68 0 rfl rfl ?_
      refine r_get C dX10_told_69 iX10_told_X10 4 fX10_told_47 0 rfl rfl (by decide) rfl ?_
      refine r_get C dX10_told_72 iX10_told_X5 17 fX10_told_112 1 rfl rfl (by decide) rfl ?_
      exact hret _ _ _ (nI pb) ⟨rfl, fun j2 q e => by
                have a : 3 = j2 := (nI_eq (by omega) (by omega)).mp e
                subst a; rfl, fun w => absurd ⟨3, by omega, rfl⟩ w⟩ (Or.inr ⟨_, rfl, dX10_told_75, Or.inl rfl⟩)
    · refine r_tsIn (tgt := 76) C dX10_told_1 (by decide) (by decide) (off := 75) (by decide) (by decide) ?_
      refine r_aload_n C dX10_told_76 0 rfl rfl ?_
      refine r_get C dX10_told_77 iX10_told_X10 4 fX10_told_47 0 rfl rfl (by decide) rfl ?_
      refine r_get C dX10_told_80 iX10_told_X5 13 fX10_told_93 1 rfl rfl (by decide) rfl ?_
      refine r_if_eq (tgt := 96) C dX10_told_83 (by decide) (fun h83 => ?_) (fun h83 => ?_)
      · have h83 : ¬ (md) := bz_0.mp h83
        refine r_iconst C dX10_told_96 (v := nI 0) (by decide) ?_
        exact hret _ _ _ (nI 0) ⟨rfl, fun j2 q e => by
                  have a : 4 = j2 := (nI_eq (by omega) (by omega)).mp e
                  subst a; exact congrArg nI (if_neg h83).symm, fun w => absurd ⟨4, by omega, rfl⟩ w⟩ (Or.inr ⟨_, rfl, dX10_told_97, Or.inl rfl⟩)
      · have h83 : md := bz_n0.mp h83
        refine r_aload_n C dX10_told_86 0 rfl rfl ?_
        refine r_get C dX10_told_87 iX10_told_X10 4 fX10_told_47 0 rfl rfl (by decide) rfl ?_
        refine r_get C dX10_told_90 iX10_told_X5 18 fX10_told_115 1 rfl rfl (by decide) rfl ?_
        refine r_goto (tgt := 97) C dX10_told_93 (by decide) ?_
        exact hret _ _ _ (nI gn) ⟨rfl, fun j2 q e => by
                  have a : 4 = j2 := (nI_eq (by omega) (by omega)).mp e
                  subst a; exact congrArg nI (if_pos h83).symm, fun w => absurd ⟨4, by omega, rfl⟩ w⟩ (Or.inr ⟨_, rfl, dX10_told_97, Or.inl rfl⟩)
    · refine r_tsIn (tgt := 98) C dX10_told_1 (by decide) (by decide) (off := 97) (by decide) (by decide) ?_
      refine r_aload_n C dX10_told_98 0 rfl rfl ?_
      refine r_get C dX10_told_99 iX10_told_X10 4 fX10_told_47 0 rfl rfl (by decide) rfl ?_
      refine r_get C dX10_told_102 iX10_told_X5 13 fX10_told_93 1 rfl rfl (by decide) rfl ?_
      refine r_if_eq (tgt := 122) C dX10_told_105 (by decide) (fun h105 => ?_) (fun h105 => ?_)
      · have h105 : ¬ (md) := bz_0.mp h105
        refine r_iconst C dX10_told_122 (v := nI 0) (by decide) ?_
        exact hret _ _ _ (nI 0) ⟨rfl, fun j2 q e => by
                  have a : 5 = j2 := (nI_eq (by omega) (by omega)).mp e
                  subst a; exact congrArg nI (dI_f (fun w => h105 w.1)).symm, fun w => absurd ⟨5, by omega, rfl⟩ w⟩ (Or.inr ⟨_, rfl, dX10_told_123, Or.inl rfl⟩)
      · have h105 : md := bz_n0.mp h105
        have hun := hun0 h105
        refine r_aload_n C dX10_told_108 0 rfl rfl ?_
        refine r_get C dX10_told_109 iX10_told_X10 4 fX10_told_47 0 rfl rfl (by decide) rfl ?_
        refine r_get C dX10_told_112 iX10_told_X5 19 fX10_told_118 1 rfl rfl (by decide) rfl ?_
        refine r_if_ne (tgt := 122) C dX10_told_115 (by decide) (fun h115 => ?_) (fun h115 => ?_)
        · have h115 : ¬ (un = 0) := fun e9 => h115 ((nI_eq (b := 0) (by omega) (by omega)).mpr e9)
          refine r_iconst C dX10_told_122 (v := nI 0) (by decide) ?_
          exact hret _ _ _ (nI 0) ⟨rfl, fun j2 q e => by
                    have a : 5 = j2 := (nI_eq (by omega) (by omega)).mp e
                    subst a; exact congrArg nI (dI_f (fun w => h115 w.2)).symm, fun w => absurd ⟨5, by omega, rfl⟩ w⟩ (Or.inr ⟨_, rfl, dX10_told_123, Or.inl rfl⟩)
        · have h115 : un = 0 := (nI_eq (b := 0) (by omega) (by omega)).mp h115
          refine r_iconst C dX10_told_118 (v := nI 1) (by decide) ?_
          refine r_goto (tgt := 123) C dX10_told_119 (by decide) ?_
          exact hret _ _ _ (nI 1) ⟨rfl, fun j2 q e => by
                    have a : 5 = j2 := (nI_eq (by omega) (by omega)).mp e
                    subst a; exact congrArg nI (dI_t ⟨h105, h115⟩).symm, fun w => absurd ⟨5, by omega, rfl⟩ w⟩ (Or.inr ⟨_, rfl, dX10_told_123, Or.inl rfl⟩)
    · refine r_tsIn (tgt := 124) C dX10_told_1 (by decide) (by decide) (off := 123) (by decide) (by decide) ?_
      refine r_aload_n C dX10_told_124 0 rfl rfl ?_
      refine r_get C dX10_told_125 iX10_told_X10 4 fX10_told_47 0 rfl rfl (by decide) rfl ?_
      refine r_get C dX10_told_128 iX10_told_X5 7 fX10_told_121 1 rfl rfl (by decide) rfl ?_
      refine r_callV0 (n := 0) (ws' := fun (u : Unit) => [(aZ, .inr (11, [.ref aG, .ref aE, .ref aTh, .ref aA, .ref aM, .ref aT])), (aM, .inr (6, [.ref aG, .ref aE, .ref aTh, .ref aA, .ref aD, .ref aQ, .ref aW, .ref aH, .ref aWh, .ref aGv, .ref aMk, .ref aRw, .ref aWo, .int (bz md), .int (nI tm), .int (nI rs), .int (nI tk), .int (nI pb), .int (nI gn), .int (nI un)])), (aH, .inr (3, [.long x]))]) C dX10_told_131 (c_X2_upperBits (g := X.1) (l := X.2.2.1) (aH := aH) (x := x) ) gX10_told_X2_upperBits rfl (by decide +kernel) rfl ⟨Nat.le_of_ble_eq_true rfl, Nat.le_of_ble_eq_true rfl⟩ ⟨rfl, rfl⟩ ⟨Nat.zero_le _, Nat.zero_le _⟩ (rest := []) rfl (Nat.le_of_ble_eq_true rfl) 0 rfl rfl [2] (by decide) rfl (fun u => Eq.trans (b := [aH]) rfl rfl) (fun u => rfl) (fun v u hp => ?_)
      obtain rfl := hp
      show RW X 0 0 134 [(0, .ref aZ), (1, .int (nI 6))] [.int (nI (hb x))] [(aZ, .inr (11, [.ref aG, .ref aE, .ref aTh, .ref aA, .ref aM, .ref aT])), (aM, .inr (6, [.ref aG, .ref aE, .ref aTh, .ref aA, .ref aD, .ref aQ, .ref aW, .ref aH, .ref aWh, .ref aGv, .ref aMk, .ref aRw, .ref aWo, .int (bz md), .int (nI tm), .int (nI rs), .int (nI tk), .int (nI pb), .int (nI gn), .int (nI un)])), (aH, .inr (3, [.long x]))]
      exact hret _ _ _ (nI (hb x)) ⟨rfl, fun j2 q e => by
                have a : 6 = j2 := (nI_eq (by omega) (by omega)).mp e
                subst a; rfl, fun w => absurd ⟨6, by omega, rfl⟩ w⟩ (Or.inr ⟨_, rfl, dX10_told_134, Or.inl rfl⟩)
  · refine r_tsOut (tgt := 135) C dX10_told_1 (ts_out (m := 6) (by omega) hE) (by decide) ?_
    refine r_iconst C dX10_told_135 (v := (-1)) (by decide) ?_
    exact hret _ _ _ ((-1)) ⟨rfl, fun j q e => absurd ⟨j, q, e⟩ hE, fun _ => rfl⟩ (Or.inr ⟨_, rfl, dX10_told_136, Or.inl rfl⟩)
theorem fX10_left_47 : Cond.fieldLink RX10 47 (TX10 4).1 (TX10 4).2.1 (TX10 4).2.2.1 ∈ wsX10_left := List.mem_of_getElem? (i := 1) rfl
theorem iX10_left_X10 : ∀ w ∈ wsX100, w ∈ wsX10_left := by decide +kernel
theorem fX10_left_93 : Cond.fieldLink RX10 93 (TX5 13).1 (TX5 13).2.1 (TX5 13).2.2.1 ∈ wsX10_left := List.mem_of_getElem? (i := 2) rfl
theorem iX10_left_X5 : ∀ w ∈ wsX50, w ∈ wsX10_left := by decide +kernel
theorem fX10_left_118 : Cond.fieldLink RX10 118 (TX5 19).1 (TX5 19).2.1 (TX5 19).2.2.1 ∈ wsX10_left := List.mem_of_getElem? (i := 3) rfl
set_option maxHeartbeats 4000000 in
set_option maxRecDepth 100000 in
theorem c_X10_left {g : ww_G} {l : Launch} {n : Nat} {N : Nat} {aG : Nat} {gr : Nat} {gc : Nat} {gb : Nat} {gu : Nat} {aZ : Nat} {aT : Nat} {aE : Nat} {aTh : Nat} {aA : Nat} {aM : Nat} {aD : Nat} {aQ : Nat} {aW : Nat} {aH : Nat} {aWh : Nat} {aGv : Nat} {aMk : Nat} {aRw : Nat} {aWo : Nat} {md : Prop} {tm : Nat} {rs : Nat} {tk : Nat} {pb : Nat} {gn : Nat} {un : Nat}  : CT g l yX10_left wsX10_left (ww_rm 1) [.ref aZ] ([(aZ, .inr (11, [.ref aG, .ref aE, .ref aTh, .ref aA, .ref aM, .ref aT])), (aM, .inr (6, [.ref aG, .ref aE, .ref aTh, .ref aA, .ref aD, .ref aQ, .ref aW, .ref aH, .ref aWh, .ref aGv, .ref aMk, .ref aRw, .ref aWo, .int (bz md), .int (nI tm), .int (nI rs), .int (nI tk), .int (nI pb), .int (nI gn), .int (nI un)]))]) (S := Int32) (fun vv9 u => vv9 = some (.int u) ∧ (md → u = nI un) ∧ (¬ md → u = -1)) (fun u => [(aZ, .inr (11, [.ref aG, .ref aE, .ref aTh, .ref aA, .ref aM, .ref aT])), (aM, .inr (6, [.ref aG, .ref aE, .ref aTh, .ref aA, .ref aD, .ref aQ, .ref aW, .ref aH, .ref aWh, .ref aGv, .ref aMk, .ref aRw, .ref aWo, .int (bz md), .int (nI tm), .int (nI rs), .int (nI tk), .int (nI pb), .int (nI gn), .int (nI un)]))]) := by
  refine CT.of cX10_left 1 (some .int) RX10 (by decide +kernel) rfl rfl (Nat.le_of_ble_eq_true rfl) ?_
  intro X hg hl C hret
  subst hg; subst hl
  show RW X 0 0 0 [(0, .ref aZ)] [] [(aZ, .inr (11, [.ref aG, .ref aE, .ref aTh, .ref aA, .ref aM, .ref aT])), (aM, .inr (6, [.ref aG, .ref aE, .ref aTh, .ref aA, .ref aD, .ref aQ, .ref aW, .ref aH, .ref aWh, .ref aGv, .ref aMk, .ref aRw, .ref aWo, .int (bz md), .int (nI tm), .int (nI rs), .int (nI tk), .int (nI pb), .int (nI gn), .int (nI un)]))]
  refine r_aload_n C dX10_left_0 0 rfl rfl ?_
  refine r_get C dX10_left_1 iX10_left_X10 4 fX10_left_47 0 rfl rfl (by decide) rfl ?_
  refine r_get C dX10_left_4 iX10_left_X5 13 fX10_left_93 1 rfl rfl (by decide) rfl ?_
  refine r_if_eq (tgt := 20) C dX10_left_7 (by decide) (fun h7 => ?_) (fun h7 => ?_)
  · have h7 : ¬ (md) := bz_0.mp h7
    refine r_iconst C dX10_left_20 (v := (-1)) (by decide) ?_
    exact hret _ _ _ ((-1)) ⟨rfl, fun w => absurd w h7, fun _ => rfl⟩ (Or.inr ⟨_, rfl, dX10_left_21, Or.inl rfl⟩)
  · have h7 : md := bz_n0.mp h7
    refine r_aload_n C dX10_left_10 0 rfl rfl ?_
    refine r_get C dX10_left_11 iX10_left_X10 4 fX10_left_47 0 rfl rfl (by decide) rfl ?_
    refine r_get C dX10_left_14 iX10_left_X5 19 fX10_left_118 1 rfl rfl (by decide) rfl ?_
    refine r_goto (tgt := 21) C dX10_left_17 (by decide) ?_
    exact hret _ _ _ (nI un) ⟨rfl, fun _ => rfl, fun w => absurd h7 w⟩ (Or.inr ⟨_, rfl, dX10_left_21, Or.inl rfl⟩)
theorem fX10_given_12 : Cond.fieldLink RX10 12 (TX10 0).1 (TX10 0).2.1 (TX10 0).2.2.1 ∈ wsX10_given := List.mem_of_getElem? (i := 1) rfl
theorem iX10_given_X10 : ∀ w ∈ wsX100, w ∈ wsX10_given := by decide +kernel
theorem fX10_given_47 : Cond.fieldLink RX10 47 (TX10 4).1 (TX10 4).2.1 (TX10 4).2.2.1 ∈ wsX10_given := List.mem_of_getElem? (i := 5) rfl
theorem fX10_given_93 : Cond.fieldLink RX10 93 (TX5 13).1 (TX5 13).2.1 (TX5 13).2.2.1 ∈ wsX10_given := List.mem_of_getElem? (i := 6) rfl
theorem iX10_given_X5 : ∀ w ∈ wsX50, w ∈ wsX10_given := by decide +kernel
theorem fX10_given_97 : Cond.fieldLink RX10 97 (TX5 9).1 (TX5 9).2.1 (TX5 9).2.2.1 ∈ wsX10_given := List.mem_of_getElem? (i := 7) rfl
set_option maxHeartbeats 4000000 in
set_option maxRecDepth 100000 in
theorem c_X10_given {g : ww_G} {l : Launch} {n : Nat} {N : Nat} {aG : Nat} {gr : Nat} {gc : Nat} {gb : Nat} {gu : Nat} {aZ : Nat} {aT : Nat} {aE : Nat} {aTh : Nat} {aA : Nat} {aM : Nat} {aD : Nat} {aQ : Nat} {aW : Nat} {aH : Nat} {aWh : Nat} {aGv : Nat} {aMk : Nat} {aRw : Nat} {aWo : Nat} {md : Prop} {tm : Nat} {rs : Nat} {tk : Nat} {pb : Nat} {gn : Nat} {un : Nat} {gv : Nat → Option Nat} {c : Nat} (hn : (n = 4 ∧ N = 16) ∨ (n = 6 ∧ N = 36)) (hc : c < N) : CT g l yX10_given wsX10_given (ww_rm 2) [.ref aZ, .int (nI c)] ([(aZ, .inr (11, [.ref aG, .ref aE, .ref aTh, .ref aA, .ref aM, .ref aT])), (aG, .inr (5, [.int (nI n), .int (nI N), .int (nI (2 ^ n - 1)), .ref gr, .ref gc, .ref gb, .ref gu])), (aM, .inr (6, [.ref aG, .ref aE, .ref aTh, .ref aA, .ref aD, .ref aQ, .ref aW, .ref aH, .ref aWh, .ref aGv, .ref aMk, .ref aRw, .ref aWo, .int (bz md), .int (nI tm), .int (nI rs), .int (nI tk), .int (nI pb), .int (nI gn), .int (nI un)])), (aGv, .inl (g.2.1, N, .inl (eb gv)))]) (S := Int32) (fun vv9 u => vv9 = some (.int u) ∧ (md → u = eo (gv c)) ∧ (¬ md → u = -1)) (fun u => [(aZ, .inr (11, [.ref aG, .ref aE, .ref aTh, .ref aA, .ref aM, .ref aT])), (aG, .inr (5, [.int (nI n), .int (nI N), .int (nI (2 ^ n - 1)), .ref gr, .ref gc, .ref gb, .ref gu])), (aM, .inr (6, [.ref aG, .ref aE, .ref aTh, .ref aA, .ref aD, .ref aQ, .ref aW, .ref aH, .ref aWh, .ref aGv, .ref aMk, .ref aRw, .ref aWo, .int (bz md), .int (nI tm), .int (nI rs), .int (nI tk), .int (nI pb), .int (nI gn), .int (nI un)])), (aGv, .inl (g.2.1, N, .inl (eb gv)))]) := by
  refine CT.of cX10_given 2 (some .int) RX10 (by decide +kernel) rfl rfl (Nat.le_of_ble_eq_true rfl) ?_
  intro X hg hl C hret
  subst hg; subst hl
  show RW X 0 0 0 [(0, .ref aZ), (1, .int (nI c))] [] [(aZ, .inr (11, [.ref aG, .ref aE, .ref aTh, .ref aA, .ref aM, .ref aT])), (aG, .inr (5, [.int (nI n), .int (nI N), .int (nI (2 ^ n - 1)), .ref gr, .ref gc, .ref gb, .ref gu])), (aM, .inr (6, [.ref aG, .ref aE, .ref aTh, .ref aA, .ref aD, .ref aQ, .ref aW, .ref aH, .ref aWh, .ref aGv, .ref aMk, .ref aRw, .ref aWo, .int (bz md), .int (nI tm), .int (nI rs), .int (nI tk), .int (nI pb), .int (nI gn), .int (nI un)])), (aGv, .inl (X.1.2.1, N, .inl (eb gv)))]
  refine r_aload_n C dX10_given_0 0 rfl rfl ?_
  refine r_get C dX10_given_1 iX10_given_X10 0 fX10_given_12 0 rfl rfl (by decide) rfl ?_
  refine r_iload_n C dX10_given_4 1 rfl rfl ?_
  refine r_callV0 (n := 1) (ws' := fun (u : Unit) => [(aZ, .inr (11, [.ref aG, .ref aE, .ref aTh, .ref aA, .ref aM, .ref aT])), (aG, .inr (5, [.int (nI n), .int (nI N), .int (nI (2 ^ n - 1)), .ref gr, .ref gc, .ref gb, .ref gu])), (aM, .inr (6, [.ref aG, .ref aE, .ref aTh, .ref aA, .ref aD, .ref aQ, .ref aW, .ref aH, .ref aWh, .ref aGv, .ref aMk, .ref aRw, .ref aWo, .int (bz md), .int (nI tm), .int (nI rs), .int (nI tk), .int (nI pb), .int (nI gn), .int (nI un)])), (aGv, .inl (X.1.2.1, N, .inl (eb gv)))]) C dX10_given_5 (c_X4_has (g := X.1) (l := X.2.2.1) (n := n) (N := N) (aG := aG) (gr := gr) (gc := gc) (gb := gb) (gu := gu) (c := nI c) (hn := (by first | assumption | omega))) gX10_given_X4_has rfl (by decide +kernel) rfl ⟨Nat.le_of_ble_eq_true rfl, Nat.le_of_ble_eq_true rfl⟩ ⟨rfl, rfl⟩ ⟨Nat.zero_le _, Nat.zero_le _⟩ (rest := []) rfl (Nat.le_of_ble_eq_true rfl) 0 rfl rfl [1] (by decide) rfl (fun u => Eq.trans (b := [aG]) rfl rfl) (fun u => rfl) (fun v u hp => ?_)
  obtain rfl := hp
  show RW X 0 0 8 [(0, .ref aZ), (1, .int (nI c))] [.int (bz (∃ j, j < N ∧ (nI c) = nI j))] [(aZ, .inr (11, [.ref aG, .ref aE, .ref aTh, .ref aA, .ref aM, .ref aT])), (aG, .inr (5, [.int (nI n), .int (nI N), .int (nI (2 ^ n - 1)), .ref gr, .ref gc, .ref gb, .ref gu])), (aM, .inr (6, [.ref aG, .ref aE, .ref aTh, .ref aA, .ref aD, .ref aQ, .ref aW, .ref aH, .ref aWh, .ref aGv, .ref aMk, .ref aRw, .ref aWo, .int (bz md), .int (nI tm), .int (nI rs), .int (nI tk), .int (nI pb), .int (nI gn), .int (nI un)])), (aGv, .inl (X.1.2.1, N, .inl (eb gv)))]
  refine r_if_ne (tgt := 21) C dX10_given_8 (by decide) (fun h8 => ?_) (fun h8 => ?_)
  · have h8 : ∃ j, j < N ∧ (nI c) = nI j := bz_n0.mp h8
    refine r_aload_n C dX10_given_21 0 rfl rfl ?_
    refine r_get C dX10_given_22 iX10_given_X10 4 fX10_given_47 0 rfl rfl (by decide) rfl ?_
    refine r_get C dX10_given_25 iX10_given_X5 13 fX10_given_93 2 rfl rfl (by decide) rfl ?_
    refine r_if_eq (tgt := 43) C dX10_given_28 (by decide) (fun h28 => ?_) (fun h28 => ?_)
    · have h28 : ¬ (md) := bz_0.mp h28
      refine r_iconst C dX10_given_43 (v := (-1)) (by decide) ?_
      exact hret _ _ _ ((-1)) ⟨rfl, fun w => absurd w h28, fun _ => rfl⟩ (Or.inr ⟨_, rfl, dX10_given_44, Or.inl rfl⟩)
    · have h28 : md := bz_n0.mp h28
      refine r_aload_n C dX10_given_31 0 rfl rfl ?_
      refine r_get C dX10_given_32 iX10_given_X10 4 fX10_given_47 0 rfl rfl (by decide) rfl ?_
      refine r_get C dX10_given_35 iX10_given_X5 9 fX10_given_97 2 rfl rfl (by decide) rfl ?_
      refine r_iload_n C dX10_given_38 1 rfl rfl ?_
      refine r_iald C dX10_given_39 3 rfl (by omega) (by omega) ?_
      refine r_goto (tgt := 44) C dX10_given_40 (by decide) ?_
      exact hret _ _ _ (eo (gv c)) ⟨rfl, fun _ => rfl, fun w => absurd h28 w⟩ (Or.inr ⟨_, rfl, dX10_given_44, Or.inl rfl⟩)
  · have h8 : ¬ (∃ j, j < N ∧ (nI c) = nI j) := bz_0.mp h8
    exact absurd ⟨c, hc, rfl⟩ h8
theorem fX10_answer_12 : Cond.fieldLink RX10 12 (TX10 0).1 (TX10 0).2.1 (TX10 0).2.2.1 ∈ wsX10_answer := List.mem_of_getElem? (i := 1) rfl
theorem iX10_answer_X10 : ∀ w ∈ wsX100, w ∈ wsX10_answer := by decide +kernel
theorem fX10_answer_47 : Cond.fieldLink RX10 47 (TX10 4).1 (TX10 4).2.1 (TX10 4).2.2.1 ∈ wsX10_answer := List.mem_of_getElem? (i := 5) rfl
theorem fX10_answer_93 : Cond.fieldLink RX10 93 (TX5 13).1 (TX5 13).2.1 (TX5 13).2.2.1 ∈ wsX10_answer := List.mem_of_getElem? (i := 6) rfl
theorem iX10_answer_X5 : ∀ w ∈ wsX50, w ∈ wsX10_answer := by decide +kernel
theorem fX10_answer_100 : Cond.fieldLink RX10 100 (TX5 8).1 (TX5 8).2.1 (TX5 8).2.2.1 ∈ wsX10_answer := List.mem_of_getElem? (i := 7) rfl
set_option maxHeartbeats 4000000 in
set_option maxRecDepth 100000 in
theorem c_X10_answer {g : ww_G} {l : Launch} {n : Nat} {N : Nat} {aG : Nat} {gr : Nat} {gc : Nat} {gb : Nat} {gu : Nat} {aZ : Nat} {aT : Nat} {aE : Nat} {aTh : Nat} {aA : Nat} {aM : Nat} {aD : Nat} {aQ : Nat} {aW : Nat} {aH : Nat} {aWh : Nat} {aGv : Nat} {aMk : Nat} {aRw : Nat} {aWo : Nat} {md : Prop} {tm : Nat} {rs : Nat} {tk : Nat} {pb : Nat} {gn : Nat} {un : Nat} {wh : Nat → Option Nat} {c : Nat} (hn : (n = 4 ∧ N = 16) ∨ (n = 6 ∧ N = 36)) (hc : c < N) : CT g l yX10_answer wsX10_answer (ww_rm 2) [.ref aZ, .int (nI c)] ([(aZ, .inr (11, [.ref aG, .ref aE, .ref aTh, .ref aA, .ref aM, .ref aT])), (aG, .inr (5, [.int (nI n), .int (nI N), .int (nI (2 ^ n - 1)), .ref gr, .ref gc, .ref gb, .ref gu])), (aM, .inr (6, [.ref aG, .ref aE, .ref aTh, .ref aA, .ref aD, .ref aQ, .ref aW, .ref aH, .ref aWh, .ref aGv, .ref aMk, .ref aRw, .ref aWo, .int (bz md), .int (nI tm), .int (nI rs), .int (nI tk), .int (nI pb), .int (nI gn), .int (nI un)])), (aWh, .inl (g.2.1, N, .inl (eb wh)))]) (S := Int32) (fun vv9 u => vv9 = some (.int u) ∧ (md → u = eo (wh c)) ∧ (¬ md → u = -1)) (fun u => [(aZ, .inr (11, [.ref aG, .ref aE, .ref aTh, .ref aA, .ref aM, .ref aT])), (aG, .inr (5, [.int (nI n), .int (nI N), .int (nI (2 ^ n - 1)), .ref gr, .ref gc, .ref gb, .ref gu])), (aM, .inr (6, [.ref aG, .ref aE, .ref aTh, .ref aA, .ref aD, .ref aQ, .ref aW, .ref aH, .ref aWh, .ref aGv, .ref aMk, .ref aRw, .ref aWo, .int (bz md), .int (nI tm), .int (nI rs), .int (nI tk), .int (nI pb), .int (nI gn), .int (nI un)])), (aWh, .inl (g.2.1, N, .inl (eb wh)))]) := by
  refine CT.of cX10_answer 2 (some .int) RX10 (by decide +kernel) rfl rfl (Nat.le_of_ble_eq_true rfl) ?_
  intro X hg hl C hret
  subst hg; subst hl
  show RW X 0 0 0 [(0, .ref aZ), (1, .int (nI c))] [] [(aZ, .inr (11, [.ref aG, .ref aE, .ref aTh, .ref aA, .ref aM, .ref aT])), (aG, .inr (5, [.int (nI n), .int (nI N), .int (nI (2 ^ n - 1)), .ref gr, .ref gc, .ref gb, .ref gu])), (aM, .inr (6, [.ref aG, .ref aE, .ref aTh, .ref aA, .ref aD, .ref aQ, .ref aW, .ref aH, .ref aWh, .ref aGv, .ref aMk, .ref aRw, .ref aWo, .int (bz md), .int (nI tm), .int (nI rs), .int (nI tk), .int (nI pb), .int (nI gn), .int (nI un)])), (aWh, .inl (X.1.2.1, N, .inl (eb wh)))]
  refine r_aload_n C dX10_answer_0 0 rfl rfl ?_
  refine r_get C dX10_answer_1 iX10_answer_X10 0 fX10_answer_12 0 rfl rfl (by decide) rfl ?_
  refine r_iload_n C dX10_answer_4 1 rfl rfl ?_
  refine r_callV0 (n := 1) (ws' := fun (u : Unit) => [(aZ, .inr (11, [.ref aG, .ref aE, .ref aTh, .ref aA, .ref aM, .ref aT])), (aG, .inr (5, [.int (nI n), .int (nI N), .int (nI (2 ^ n - 1)), .ref gr, .ref gc, .ref gb, .ref gu])), (aM, .inr (6, [.ref aG, .ref aE, .ref aTh, .ref aA, .ref aD, .ref aQ, .ref aW, .ref aH, .ref aWh, .ref aGv, .ref aMk, .ref aRw, .ref aWo, .int (bz md), .int (nI tm), .int (nI rs), .int (nI tk), .int (nI pb), .int (nI gn), .int (nI un)])), (aWh, .inl (X.1.2.1, N, .inl (eb wh)))]) C dX10_answer_5 (c_X4_has (g := X.1) (l := X.2.2.1) (n := n) (N := N) (aG := aG) (gr := gr) (gc := gc) (gb := gb) (gu := gu) (c := nI c) (hn := (by first | assumption | omega))) gX10_answer_X4_has rfl (by decide +kernel) rfl ⟨Nat.le_of_ble_eq_true rfl, Nat.le_of_ble_eq_true rfl⟩ ⟨rfl, rfl⟩ ⟨Nat.zero_le _, Nat.zero_le _⟩ (rest := []) rfl (Nat.le_of_ble_eq_true rfl) 0 rfl rfl [1] (by decide) rfl (fun u => Eq.trans (b := [aG]) rfl rfl) (fun u => rfl) (fun v u hp => ?_)
  obtain rfl := hp
  show RW X 0 0 8 [(0, .ref aZ), (1, .int (nI c))] [.int (bz (∃ j, j < N ∧ (nI c) = nI j))] [(aZ, .inr (11, [.ref aG, .ref aE, .ref aTh, .ref aA, .ref aM, .ref aT])), (aG, .inr (5, [.int (nI n), .int (nI N), .int (nI (2 ^ n - 1)), .ref gr, .ref gc, .ref gb, .ref gu])), (aM, .inr (6, [.ref aG, .ref aE, .ref aTh, .ref aA, .ref aD, .ref aQ, .ref aW, .ref aH, .ref aWh, .ref aGv, .ref aMk, .ref aRw, .ref aWo, .int (bz md), .int (nI tm), .int (nI rs), .int (nI tk), .int (nI pb), .int (nI gn), .int (nI un)])), (aWh, .inl (X.1.2.1, N, .inl (eb wh)))]
  refine r_if_ne (tgt := 21) C dX10_answer_8 (by decide) (fun h8 => ?_) (fun h8 => ?_)
  · have h8 : ∃ j, j < N ∧ (nI c) = nI j := bz_n0.mp h8
    refine r_aload_n C dX10_answer_21 0 rfl rfl ?_
    refine r_get C dX10_answer_22 iX10_answer_X10 4 fX10_answer_47 0 rfl rfl (by decide) rfl ?_
    refine r_get C dX10_answer_25 iX10_answer_X5 13 fX10_answer_93 2 rfl rfl (by decide) rfl ?_
    refine r_if_eq (tgt := 43) C dX10_answer_28 (by decide) (fun h28 => ?_) (fun h28 => ?_)
    · have h28 : ¬ (md) := bz_0.mp h28
      refine r_iconst C dX10_answer_43 (v := (-1)) (by decide) ?_
      exact hret _ _ _ ((-1)) ⟨rfl, fun w => absurd w h28, fun _ => rfl⟩ (Or.inr ⟨_, rfl, dX10_answer_44, Or.inl rfl⟩)
    · have h28 : md := bz_n0.mp h28
      refine r_aload_n C dX10_answer_31 0 rfl rfl ?_
      refine r_get C dX10_answer_32 iX10_answer_X10 4 fX10_answer_47 0 rfl rfl (by decide) rfl ?_
      refine r_get C dX10_answer_35 iX10_answer_X5 8 fX10_answer_100 2 rfl rfl (by decide) rfl ?_
      refine r_iload_n C dX10_answer_38 1 rfl rfl ?_
      refine r_iald C dX10_answer_39 3 rfl (by omega) (by omega) ?_
      refine r_goto (tgt := 44) C dX10_answer_40 (by decide) ?_
      exact hret _ _ _ (eo (wh c)) ⟨rfl, fun _ => rfl, fun w => absurd h28 w⟩ (Or.inr ⟨_, rfl, dX10_answer_44, Or.inl rfl⟩)
  · have h8 : ¬ (∃ j, j < N ∧ (nI c) = nI j) := bz_0.mp h8
    exact absurd ⟨c, hc, rfl⟩ h8
theorem fX10_needed_12 : Cond.fieldLink RX10 12 (TX10 0).1 (TX10 0).2.1 (TX10 0).2.2.1 ∈ wsX10_needed := List.mem_of_getElem? (i := 1) rfl
theorem iX10_needed_X10 : ∀ w ∈ wsX100, w ∈ wsX10_needed := by decide +kernel
theorem fX10_needed_47 : Cond.fieldLink RX10 47 (TX10 4).1 (TX10 4).2.1 (TX10 4).2.2.1 ∈ wsX10_needed := List.mem_of_getElem? (i := 5) rfl
theorem fX10_needed_93 : Cond.fieldLink RX10 93 (TX5 13).1 (TX5 13).2.1 (TX5 13).2.2.1 ∈ wsX10_needed := List.mem_of_getElem? (i := 6) rfl
theorem iX10_needed_X5 : ∀ w ∈ wsX50, w ∈ wsX10_needed := by decide +kernel
theorem fX10_needed_23 : Cond.fieldLink RX10 23 (TX10 1).1 (TX10 1).2.1 (TX10 1).2.2.1 ∈ wsX10_needed := List.mem_of_getElem? (i := 7) rfl
theorem fX10_needed_131 : Cond.fieldLink RX10 131 (TX6 1).1 (TX6 1).2.1 (TX6 1).2.2.1 ∈ wsX10_needed := List.mem_of_getElem? (i := 8) rfl
theorem iX10_needed_X6 : ∀ w ∈ wsX60, w ∈ wsX10_needed := by decide +kernel
set_option maxHeartbeats 4000000 in
set_option maxRecDepth 100000 in
theorem c_X10_needed {g : ww_G} {l : Launch} {n : Nat} {N : Nat} {aG : Nat} {gr : Nat} {gc : Nat} {gb : Nat} {gu : Nat} {aZ : Nat} {aT : Nat} {aE : Nat} {aTh : Nat} {aA : Nat} {aM : Nat} {aD : Nat} {aQ : Nat} {aW : Nat} {aH : Nat} {aWh : Nat} {aGv : Nat} {aMk : Nat} {aRw : Nat} {aWo : Nat} {md : Prop} {tm : Nat} {rs : Nat} {tk : Nat} {pb : Nat} {gn : Nat} {un : Nat} {aL : Nat} {lf : Nat → Nat} {th : Nat → Nat} {gv : Nat → Option Nat} {wo : Nat → Int32} {c : Nat} {aO : Nat} {lim : Nat} {fd : Nat} {o : Nat → Nat} {vB : Nat} {vS : Nat} {vR : Nat} {vC : Nat} {vX : Nat} {vf : Nat → Int32} {vfR : Nat → Int32} {vfC : Nat → Int32} {vfB : Nat → Int32} (hn : (n = 4 ∧ N = 16) ∨ (n = 6 ∧ N = 36)) (hlf : ∀ c, c < N → lf c < N) (hc : c < N) (hok : md → okB n N gv) : CT g l yX10_needed wsX10_needed (ww_rm 62) [.ref aZ, .int (nI c)] ([(aZ, .inr (11, [.ref aG, .ref aE, .ref aTh, .ref aA, .ref aM, .ref aT])), (aM, .inr (6, [.ref aG, .ref aE, .ref aTh, .ref aA, .ref aD, .ref aQ, .ref aW, .ref aH, .ref aWh, .ref aGv, .ref aMk, .ref aRw, .ref aWo, .int (bz md), .int (nI tm), .int (nI rs), .int (nI tk), .int (nI pb), .int (nI gn), .int (nI un)])), (aG, .inr (5, [.int (nI n), .int (nI N), .int (nI (2 ^ n - 1)), .ref gr, .ref gc, .ref gb, .ref gu])), (gr, .inl (g.2.1, N, .inl (gR n))), (gc, .inl (g.2.1, N, .inl (gC n))), (gb, .inl (g.2.1, N, .inl (gB n))), (aE, .inr (7, [.ref aG, .ref aL])), (aL, .inl (g.2.1, N, .inl (nO lf))), (aGv, .inl (g.2.1, N, .inl (eb gv))), (aWo, .inl (g.2.1, N, .inl wo)), (aW, .inr (9, [.ref vB, .ref aO, .int (nI lim), .int (nI fd)])), (aO, .inl (g.2.1, N, .inl (nO o))), (vB, .inr (2, [.ref aG, .ref vS, .ref vR, .ref vC, .ref vX])), (vS, .inl (g.2.1, N, .inl vf)), (vR, .inl (g.2.1, n, .inl vfR)), (vC, .inl (g.2.1, n, .inl vfC)), (vX, .inl (g.2.1, n, .inl vfB))]) (S := (Nat → Int32) × Nat × Nat × (Nat → Nat) × (Nat → Int32) × (Nat → Int32) × (Nat → Int32) × (Nat → Int32)) (fun vv9 u => vv9 = some (.int (bz (md ∧ needP n N lf (lf c) gv)))) (fun u => [(aZ, .inr (11, [.ref aG, .ref aE, .ref aTh, .ref aA, .ref aM, .ref aT])), (aM, .inr (6, [.ref aG, .ref aE, .ref aTh, .ref aA, .ref aD, .ref aQ, .ref aW, .ref aH, .ref aWh, .ref aGv, .ref aMk, .ref aRw, .ref aWo, .int (bz md), .int (nI tm), .int (nI rs), .int (nI tk), .int (nI pb), .int (nI gn), .int (nI un)])), (aG, .inr (5, [.int (nI n), .int (nI N), .int (nI (2 ^ n - 1)), .ref gr, .ref gc, .ref gb, .ref gu])), (gr, .inl (g.2.1, N, .inl (gR n))), (gc, .inl (g.2.1, N, .inl (gC n))), (gb, .inl (g.2.1, N, .inl (gB n))), (aE, .inr (7, [.ref aG, .ref aL])), (aL, .inl (g.2.1, N, .inl (nO lf))), (aGv, .inl (g.2.1, N, .inl (eb gv))), (aWo, .inl (g.2.1, N, .inl u.1)), (aW, .inr (9, [.ref vB, .ref aO, .int (nI u.2.1), .int (nI u.2.2.1)])), (aO, .inl (g.2.1, N, .inl (nO u.2.2.2.1))), (vB, .inr (2, [.ref aG, .ref vS, .ref vR, .ref vC, .ref vX])), (vS, .inl (g.2.1, N, .inl u.2.2.2.2.1)), (vR, .inl (g.2.1, n, .inl u.2.2.2.2.2.1)), (vC, .inl (g.2.1, n, .inl u.2.2.2.2.2.2.1)), (vX, .inl (g.2.1, n, .inl u.2.2.2.2.2.2.2))]) := by
  refine CT.of cX10_needed 2 (some .boolean) RX10 (by decide +kernel) rfl rfl (Nat.le_of_ble_eq_true rfl) ?_
  intro X hg hl C hret
  subst hg; subst hl
  show RW X 0 0 0 [(0, .ref aZ), (1, .int (nI c))] [] [(aZ, .inr (11, [.ref aG, .ref aE, .ref aTh, .ref aA, .ref aM, .ref aT])), (aM, .inr (6, [.ref aG, .ref aE, .ref aTh, .ref aA, .ref aD, .ref aQ, .ref aW, .ref aH, .ref aWh, .ref aGv, .ref aMk, .ref aRw, .ref aWo, .int (bz md), .int (nI tm), .int (nI rs), .int (nI tk), .int (nI pb), .int (nI gn), .int (nI un)])), (aG, .inr (5, [.int (nI n), .int (nI N), .int (nI (2 ^ n - 1)), .ref gr, .ref gc, .ref gb, .ref gu])), (gr, .inl (X.1.2.1, N, .inl (gR n))), (gc, .inl (X.1.2.1, N, .inl (gC n))), (gb, .inl (X.1.2.1, N, .inl (gB n))), (aE, .inr (7, [.ref aG, .ref aL])), (aL, .inl (X.1.2.1, N, .inl (nO lf))), (aGv, .inl (X.1.2.1, N, .inl (eb gv))), (aWo, .inl (X.1.2.1, N, .inl wo)), (aW, .inr (9, [.ref vB, .ref aO, .int (nI lim), .int (nI fd)])), (aO, .inl (X.1.2.1, N, .inl (nO o))), (vB, .inr (2, [.ref aG, .ref vS, .ref vR, .ref vC, .ref vX])), (vS, .inl (X.1.2.1, N, .inl vf)), (vR, .inl (X.1.2.1, n, .inl vfR)), (vC, .inl (X.1.2.1, n, .inl vfC)), (vX, .inl (X.1.2.1, n, .inl vfB))]
  refine r_aload_n C dX10_needed_0 0 rfl rfl ?_
  refine r_get C dX10_needed_1 iX10_needed_X10 0 fX10_needed_12 0 rfl rfl (by decide) rfl ?_
  refine r_iload_n C dX10_needed_4 1 rfl rfl ?_
  refine r_callV0 (n := 1) (ws' := fun (u : Unit) => [(aZ, .inr (11, [.ref aG, .ref aE, .ref aTh, .ref aA, .ref aM, .ref aT])), (aM, .inr (6, [.ref aG, .ref aE, .ref aTh, .ref aA, .ref aD, .ref aQ, .ref aW, .ref aH, .ref aWh, .ref aGv, .ref aMk, .ref aRw, .ref aWo, .int (bz md), .int (nI tm), .int (nI rs), .int (nI tk), .int (nI pb), .int (nI gn), .int (nI un)])), (aG, .inr (5, [.int (nI n), .int (nI N), .int (nI (2 ^ n - 1)), .ref gr, .ref gc, .ref gb, .ref gu])), (gr, .inl (X.1.2.1, N, .inl (gR n))), (gc, .inl (X.1.2.1, N, .inl (gC n))), (gb, .inl (X.1.2.1, N, .inl (gB n))), (aE, .inr (7, [.ref aG, .ref aL])), (aL, .inl (X.1.2.1, N, .inl (nO lf))), (aGv, .inl (X.1.2.1, N, .inl (eb gv))), (aWo, .inl (X.1.2.1, N, .inl wo)), (aW, .inr (9, [.ref vB, .ref aO, .int (nI lim), .int (nI fd)])), (aO, .inl (X.1.2.1, N, .inl (nO o))), (vB, .inr (2, [.ref aG, .ref vS, .ref vR, .ref vC, .ref vX])), (vS, .inl (X.1.2.1, N, .inl vf)), (vR, .inl (X.1.2.1, n, .inl vfR)), (vC, .inl (X.1.2.1, n, .inl vfC)), (vX, .inl (X.1.2.1, n, .inl vfB))]) C dX10_needed_5 (c_X4_has (g := X.1) (l := X.2.2.1) (n := n) (N := N) (aG := aG) (gr := gr) (gc := gc) (gb := gb) (gu := gu) (c := nI c) (hn := (by first | assumption | omega))) gX10_needed_X4_has rfl (by decide +kernel) rfl ⟨Nat.le_of_ble_eq_true rfl, Nat.le_of_ble_eq_true rfl⟩ ⟨rfl, rfl⟩ ⟨Nat.zero_le _, Nat.zero_le _⟩ (rest := []) rfl (Nat.le_of_ble_eq_true rfl) 0 rfl rfl [2] (by decide) rfl (fun u => Eq.trans (b := [aG]) rfl rfl) (fun u => rfl) (fun v u hp => ?_)
  obtain rfl := hp
  show RW X 0 0 8 [(0, .ref aZ), (1, .int (nI c))] [.int (bz (∃ j, j < N ∧ (nI c) = nI j))] [(aZ, .inr (11, [.ref aG, .ref aE, .ref aTh, .ref aA, .ref aM, .ref aT])), (aM, .inr (6, [.ref aG, .ref aE, .ref aTh, .ref aA, .ref aD, .ref aQ, .ref aW, .ref aH, .ref aWh, .ref aGv, .ref aMk, .ref aRw, .ref aWo, .int (bz md), .int (nI tm), .int (nI rs), .int (nI tk), .int (nI pb), .int (nI gn), .int (nI un)])), (aG, .inr (5, [.int (nI n), .int (nI N), .int (nI (2 ^ n - 1)), .ref gr, .ref gc, .ref gb, .ref gu])), (gr, .inl (X.1.2.1, N, .inl (gR n))), (gc, .inl (X.1.2.1, N, .inl (gC n))), (gb, .inl (X.1.2.1, N, .inl (gB n))), (aE, .inr (7, [.ref aG, .ref aL])), (aL, .inl (X.1.2.1, N, .inl (nO lf))), (aGv, .inl (X.1.2.1, N, .inl (eb gv))), (aWo, .inl (X.1.2.1, N, .inl wo)), (aW, .inr (9, [.ref vB, .ref aO, .int (nI lim), .int (nI fd)])), (aO, .inl (X.1.2.1, N, .inl (nO o))), (vB, .inr (2, [.ref aG, .ref vS, .ref vR, .ref vC, .ref vX])), (vS, .inl (X.1.2.1, N, .inl vf)), (vR, .inl (X.1.2.1, n, .inl vfR)), (vC, .inl (X.1.2.1, n, .inl vfC)), (vX, .inl (X.1.2.1, n, .inl vfB))]
  refine r_if_ne (tgt := 21) C dX10_needed_8 (by decide) (fun h8 => ?_) (fun h8 => ?_)
  · have h8 : ∃ j, j < N ∧ (nI c) = nI j := bz_n0.mp h8
    refine r_aload_n C dX10_needed_21 0 rfl rfl ?_
    refine r_get C dX10_needed_22 iX10_needed_X10 4 fX10_needed_47 0 rfl rfl (by decide) rfl ?_
    refine r_get C dX10_needed_25 iX10_needed_X5 13 fX10_needed_93 1 rfl rfl (by decide) rfl ?_
    refine r_if_eq (tgt := 54) C dX10_needed_28 (by decide) (fun h28 => ?_) (fun h28 => ?_)
    · have h28 : ¬ (md) := bz_0.mp h28
      refine r_iconst C dX10_needed_54 (v := nI 0) (by decide) ?_
      refine r_top (y := bz (md ∧ needP n N lf (lf c) gv)) ((bz_f (fun w => h28 w.1)).symm) ?_
      exact hret _ _ _ (wo, lim, fd, o, vf, vfR, vfC, vfB) rfl (Or.inr ⟨_, rfl, dX10_needed_55, Or.inr ⟨rfl, bz_01 _⟩⟩)
    · have h28 : md := bz_n0.mp h28
      refine r_aload_n C dX10_needed_31 0 rfl rfl ?_
      refine r_get C dX10_needed_32 iX10_needed_X10 4 fX10_needed_47 0 rfl rfl (by decide) rfl ?_
      refine r_aload_n C dX10_needed_35 0 rfl rfl ?_
      refine r_get C dX10_needed_36 iX10_needed_X10 1 fX10_needed_23 0 rfl rfl (by decide) rfl ?_
      refine r_get C dX10_needed_39 iX10_needed_X6 1 fX10_needed_131 6 rfl rfl (by decide) rfl ?_
      refine r_iload_n C dX10_needed_42 1 rfl rfl ?_
      refine r_iald C dX10_needed_43 7 rfl (by omega) (by omega) ?_
      show RW X 0 0 44 [(0, .ref aZ), (1, .int (nI c))] [.int (nI (lf c)), .ref aM] [(aZ, .inr (11, [.ref aG, .ref aE, .ref aTh, .ref aA, .ref aM, .ref aT])), (aM, .inr (6, [.ref aG, .ref aE, .ref aTh, .ref aA, .ref aD, .ref aQ, .ref aW, .ref aH, .ref aWh, .ref aGv, .ref aMk, .ref aRw, .ref aWo, .int (bz md), .int (nI tm), .int (nI rs), .int (nI tk), .int (nI pb), .int (nI gn), .int (nI un)])), (aG, .inr (5, [.int (nI n), .int (nI N), .int (nI (2 ^ n - 1)), .ref gr, .ref gc, .ref gb, .ref gu])), (gr, .inl (X.1.2.1, N, .inl (gR n))), (gc, .inl (X.1.2.1, N, .inl (gC n))), (gb, .inl (X.1.2.1, N, .inl (gB n))), (aE, .inr (7, [.ref aG, .ref aL])), (aL, .inl (X.1.2.1, N, .inl (nO lf))), (aGv, .inl (X.1.2.1, N, .inl (eb gv))), (aWo, .inl (X.1.2.1, N, .inl wo)), (aW, .inr (9, [.ref vB, .ref aO, .int (nI lim), .int (nI fd)])), (aO, .inl (X.1.2.1, N, .inl (nO o))), (vB, .inr (2, [.ref aG, .ref vS, .ref vR, .ref vC, .ref vX])), (vS, .inl (X.1.2.1, N, .inl vf)), (vR, .inl (X.1.2.1, n, .inl vfR)), (vC, .inl (X.1.2.1, n, .inl vfC)), (vX, .inl (X.1.2.1, n, .inl vfB))]
      refine r_callV0 (n := 1) (ws' := fun (u : Nat × Nat × (Nat → Nat) × (Nat → Int32) × (Nat → Int32) × (Nat → Int32) × (Nat → Int32)) => [(aZ, .inr (11, [.ref aG, .ref aE, .ref aTh, .ref aA, .ref aM, .ref aT])), (aM, .inr (6, [.ref aG, .ref aE, .ref aTh, .ref aA, .ref aD, .ref aQ, .ref aW, .ref aH, .ref aWh, .ref aGv, .ref aMk, .ref aRw, .ref aWo, .int (bz md), .int (nI tm), .int (nI rs), .int (nI tk), .int (nI pb), .int (nI gn), .int (nI un)])), (aG, .inr (5, [.int (nI n), .int (nI N), .int (nI (2 ^ n - 1)), .ref gr, .ref gc, .ref gb, .ref gu])), (gr, .inl (X.1.2.1, N, .inl (gR n))), (gc, .inl (X.1.2.1, N, .inl (gC n))), (gb, .inl (X.1.2.1, N, .inl (gB n))), (aE, .inr (7, [.ref aG, .ref aL])), (aL, .inl (X.1.2.1, N, .inl (nO lf))), (aGv, .inl (X.1.2.1, N, .inl (eb gv))), (aWo, .inl (X.1.2.1, N, .inl (eb (woF lf (lf c) gv)))), (aW, .inr (9, [.ref vB, .ref aO, .int (nI u.1), .int (nI u.2.1)])), (aO, .inl (X.1.2.1, N, .inl (nO u.2.2.1))), (vB, .inr (2, [.ref aG, .ref vS, .ref vR, .ref vC, .ref vX])), (vS, .inl (X.1.2.1, N, .inl u.2.2.2.1)), (vR, .inl (X.1.2.1, n, .inl u.2.2.2.2.1)), (vC, .inl (X.1.2.1, n, .inl u.2.2.2.2.2.1)), (vX, .inl (X.1.2.1, n, .inl u.2.2.2.2.2.2))]) C dX10_needed_44 (c_X5_needsSet (g := X.1) (l := X.2.2.1) (n := n) (N := N) (aG := aG) (gr := gr) (gc := gc) (gb := gb) (gu := gu) (aM := aM) (aE := aE) (aTh := aTh) (aA := aA) (aD := aD) (aQ := aQ) (aW := aW) (aH := aH) (aWh := aWh) (aGv := aGv) (aMk := aMk) (aRw := aRw) (aWo := aWo) (md := md) (tm := tm) (rs := rs) (tk := tk) (pb := pb) (gn := gn) (un := un) (aL := aL) (lf := lf) (gv := gv) (wo := wo) (ss := lf c) (aO := aO) (lim := lim) (fd := fd) (o := o) (vB := vB) (vS := vS) (vR := vR) (vC := vC) (vX := vX) (vf := vf) (vfR := vfR) (vfC := vfC) (vfB := vfB) (hn := (by first | assumption | omega)) (hlf := (by first | assumption | omega)) (hok := (hok h28)) (hss := (hlf c hc))) gX10_needed_X5_needsSet rfl (by decide +kernel) rfl ⟨Nat.le_of_ble_eq_true rfl, Nat.le_of_ble_eq_true rfl⟩ ⟨rfl, rfl⟩ ⟨Nat.zero_le _, Nat.zero_le _⟩ (rest := []) rfl (Nat.le_of_ble_eq_true rfl) 0 rfl rfl [1, 2, 3, 4, 5, 6, 7, 8, 9, 10, 11, 12, 13, 14, 15, 16] (by decide) rfl (fun u => Eq.trans (b := [aM, aG, gr, gc, gb, aE, aL, aGv, aWo, aW, aO, vB, vS, vR, vC, vX]) rfl rfl) (fun u => rfl) (fun v u hp => ?_)
      obtain ⟨lim9_2, fd9_2, o9_2, f9_2, fR9_2, fC9_2, fB9_2⟩ := u
      obtain rfl := hp
      show RW X 0 0 47 [(0, .ref aZ), (1, .int (nI c))] [.int (bz (soP N (lf c) lf gv ∧ 1 < min 2 (0 + cntS n N (woF lf (lf c) gv))))] [(aZ, .inr (11, [.ref aG, .ref aE, .ref aTh, .ref aA, .ref aM, .ref aT])), (aM, .inr (6, [.ref aG, .ref aE, .ref aTh, .ref aA, .ref aD, .ref aQ, .ref aW, .ref aH, .ref aWh, .ref aGv, .ref aMk, .ref aRw, .ref aWo, .int (bz md), .int (nI tm), .int (nI rs), .int (nI tk), .int (nI pb), .int (nI gn), .int (nI un)])), (aG, .inr (5, [.int (nI n), .int (nI N), .int (nI (2 ^ n - 1)), .ref gr, .ref gc, .ref gb, .ref gu])), (gr, .inl (X.1.2.1, N, .inl (gR n))), (gc, .inl (X.1.2.1, N, .inl (gC n))), (gb, .inl (X.1.2.1, N, .inl (gB n))), (aE, .inr (7, [.ref aG, .ref aL])), (aL, .inl (X.1.2.1, N, .inl (nO lf))), (aGv, .inl (X.1.2.1, N, .inl (eb gv))), (aWo, .inl (X.1.2.1, N, .inl (eb (woF lf (lf c) gv)))), (aW, .inr (9, [.ref vB, .ref aO, .int (nI lim9_2), .int (nI fd9_2)])), (aO, .inl (X.1.2.1, N, .inl (nO o9_2))), (vB, .inr (2, [.ref aG, .ref vS, .ref vR, .ref vC, .ref vX])), (vS, .inl (X.1.2.1, N, .inl f9_2)), (vR, .inl (X.1.2.1, n, .inl fR9_2)), (vC, .inl (X.1.2.1, n, .inl fC9_2)), (vX, .inl (X.1.2.1, n, .inl fB9_2))]
      refine r_if_eq (tgt := 54) C dX10_needed_47 (by decide) (fun h47 => ?_) (fun h47 => ?_)
      · have h47 : ¬ (soP N (lf c) lf gv ∧ 1 < min 2 (0 + cntS n N (woF lf (lf c) gv))) := bz_0.mp h47
        refine r_iconst C dX10_needed_54 (v := nI 0) (by decide) ?_
        refine r_top (y := bz (md ∧ needP n N lf (lf c) gv)) ((bz_f (fun w => h47 w.2)).symm) ?_
        exact hret _ _ _ (eb (woF lf (lf c) gv), lim9_2, fd9_2, o9_2, f9_2, fR9_2, fC9_2, fB9_2) rfl (Or.inr ⟨_, rfl, dX10_needed_55, Or.inr ⟨rfl, bz_01 _⟩⟩)
      · have h47 : soP N (lf c) lf gv ∧ 1 < min 2 (0 + cntS n N (woF lf (lf c) gv)) := bz_n0.mp h47
        refine r_iconst C dX10_needed_50 (v := nI 1) (by decide) ?_
        refine r_goto (tgt := 55) C dX10_needed_51 (by decide) ?_
        refine r_top (y := bz (md ∧ needP n N lf (lf c) gv)) ((bz_t ⟨h28, h47⟩).symm) ?_
        exact hret _ _ _ (eb (woF lf (lf c) gv), lim9_2, fd9_2, o9_2, f9_2, fR9_2, fC9_2, fB9_2) rfl (Or.inr ⟨_, rfl, dX10_needed_55, Or.inr ⟨rfl, bz_01 _⟩⟩)
  · have h8 : ¬ (∃ j, j < N ∧ (nI c) = nI j) := bz_0.mp h8
    exact absurd ⟨c, hc, rfl⟩ h8
theorem fX10_theme_12 : Cond.fieldLink RX10 12 (TX10 0).1 (TX10 0).2.1 (TX10 0).2.2.1 ∈ wsX10_theme := List.mem_of_getElem? (i := 3) rfl
theorem iX10_theme_X10 : ∀ w ∈ wsX100, w ∈ wsX10_theme := by decide +kernel
theorem fX10_theme_31 : Cond.fieldLink RX10 31 (TX10 2).1 (TX10 2).2.1 (TX10 2).2.2.1 ∈ wsX10_theme := List.mem_of_getElem? (i := 7) rfl
set_option maxHeartbeats 4000000 in
set_option maxRecDepth 100000 in
theorem c_X10_theme {g : ww_G} {l : Launch} {n : Nat} {N : Nat} {aG : Nat} {gr : Nat} {gc : Nat} {gb : Nat} {gu : Nat} {aZ : Nat} {aT : Nat} {aE : Nat} {aTh : Nat} {aA : Nat} {aM : Nat} {th : Nat → Nat} {c : Nat} {k : Nat} (hn : (n = 4 ∧ N = 16) ∨ (n = 6 ∧ N = 36)) (hc : c < N) (hk : k < 3) : CT g l yX10_theme wsX10_theme (ww_rm 2) [.ref aZ, .int (nI c), .int (nI k)] ([(aZ, .inr (11, [.ref aG, .ref aE, .ref aTh, .ref aA, .ref aM, .ref aT])), (aG, .inr (5, [.int (nI n), .int (nI N), .int (nI (2 ^ n - 1)), .ref gr, .ref gc, .ref gb, .ref gu])), (aTh, .inl (g.2.1, N, .inl (nO th)))]) (S := Unit) (fun vv9 u => vv9 = none) (fun u => [(aZ, .inr (11, [.ref aG, .ref aE, .ref aTh, .ref aA, .ref aM, .ref aT])), (aG, .inr (5, [.int (nI n), .int (nI N), .int (nI (2 ^ n - 1)), .ref gr, .ref gc, .ref gb, .ref gu])), (aTh, .inl (g.2.1, N, .inl (nO (uO th c k))))]) := by
  refine CT.of cX10_theme 3 none RX10 (by decide +kernel) rfl rfl (Nat.le_of_ble_eq_true rfl) ?_
  intro X hg hl C hret
  subst hg; subst hl
  show RW X 0 0 0 [(0, .ref aZ), (1, .int (nI c)), (2, .int (nI k))] [] [(aZ, .inr (11, [.ref aG, .ref aE, .ref aTh, .ref aA, .ref aM, .ref aT])), (aG, .inr (5, [.int (nI n), .int (nI N), .int (nI (2 ^ n - 1)), .ref gr, .ref gc, .ref gb, .ref gu])), (aTh, .inl (X.1.2.1, N, .inl (nO th)))]
  refine r_aload_n C dX10_theme_0 0 rfl rfl ?_
  refine r_get C dX10_theme_1 iX10_theme_X10 0 fX10_theme_12 0 rfl rfl (by decide) rfl ?_
  refine r_iload_n C dX10_theme_4 1 rfl rfl ?_
  refine r_callV0 (n := 1) (ws' := fun (u : Unit) => [(aZ, .inr (11, [.ref aG, .ref aE, .ref aTh, .ref aA, .ref aM, .ref aT])), (aG, .inr (5, [.int (nI n), .int (nI N), .int (nI (2 ^ n - 1)), .ref gr, .ref gc, .ref gb, .ref gu])), (aTh, .inl (X.1.2.1, N, .inl (nO th)))]) C dX10_theme_5 (c_X4_has (g := X.1) (l := X.2.2.1) (n := n) (N := N) (aG := aG) (gr := gr) (gc := gc) (gb := gb) (gu := gu) (c := nI c) (hn := (by first | assumption | omega))) gX10_theme_X4_has rfl (by decide +kernel) rfl ⟨Nat.le_of_ble_eq_true rfl, Nat.le_of_ble_eq_true rfl⟩ ⟨rfl, rfl⟩ ⟨Nat.zero_le _, Nat.zero_le _⟩ (rest := []) rfl (Nat.le_of_ble_eq_true rfl) 0 rfl rfl [1] (by decide) rfl (fun u => Eq.trans (b := [aG]) rfl rfl) (fun u => rfl) (fun v u hp => ?_)
  obtain rfl := hp
  show RW X 0 0 8 [(0, .ref aZ), (1, .int (nI c)), (2, .int (nI k))] [.int (bz (∃ j, j < N ∧ (nI c) = nI j))] [(aZ, .inr (11, [.ref aG, .ref aE, .ref aTh, .ref aA, .ref aM, .ref aT])), (aG, .inr (5, [.int (nI n), .int (nI N), .int (nI (2 ^ n - 1)), .ref gr, .ref gc, .ref gb, .ref gu])), (aTh, .inl (X.1.2.1, N, .inl (nO th)))]
  refine r_if_ne (tgt := 21) C dX10_theme_8 (by decide) (fun h8 => ?_) (fun h8 => ?_)
  · have h8 : ∃ j, j < N ∧ (nI c) = nI j := bz_n0.mp h8
    refine r_iload_n C dX10_theme_21 2 rfl rfl ?_
    refine r_if_lt (tgt := 30) C dX10_theme_22 (by decide) (fun h22 => ?_) (fun h22 => ?_)
    · exact absurd h22 (nI_pos (by omega))
    · refine r_iload_n C dX10_theme_25 2 rfl rfl ?_
      refine r_iconst C dX10_theme_26 (v := nI 3) (by decide) ?_
      refine r_icmp_lt (tgt := 40) C dX10_theme_27 (by decide) (fun h27 => ?_) (fun h27 => ?_)
      · have h27 : k < 3 := (nI_ltI (by omega) (by omega)).mp h27
        refine r_aload_n C dX10_theme_40 0 rfl rfl ?_
        refine r_get C dX10_theme_41 iX10_theme_X10 2 fX10_theme_31 0 rfl rfl (by decide) rfl ?_
        refine r_iload_n C dX10_theme_44 1 rfl rfl ?_
        refine r_iload_n C dX10_theme_45 2 rfl rfl ?_
        refine r_iast C dX10_theme_46 2 rfl (by omega) (by omega) (ws' := [(aZ, .inr (11, [.ref aG, .ref aE, .ref aTh, .ref aA, .ref aM, .ref aT])), (aG, .inr (5, [.int (nI n), .int (nI N), .int (nI (2 ^ n - 1)), .ref gr, .ref gc, .ref gb, .ref gu])), (aTh, .inl (X.1.2.1, N, .inl (upd (nO th) c (nI k))))]) rfl ?_
        rw [nO_u]
        show RW X 0 0 47 [(0, .ref aZ), (1, .int (nI c)), (2, .int (nI k))] [] [(aZ, .inr (11, [.ref aG, .ref aE, .ref aTh, .ref aA, .ref aM, .ref aT])), (aG, .inr (5, [.int (nI n), .int (nI N), .int (nI (2 ^ n - 1)), .ref gr, .ref gc, .ref gb, .ref gu])), (aTh, .inl (X.1.2.1, N, .inl (nO (uO th c k))))]
        exact hret _ _ _ () rfl (Or.inl ⟨rfl, rfl, dX10_theme_47⟩)
      · have h27 : ¬ (k < 3) := fun e9 => h27 ((nI_ltI (by omega) (by omega)).mpr e9)
        exact absurd hk h27
  · have h8 : ¬ (∃ j, j < N ∧ (nI c) = nI j) := bz_0.mp h8
    exact absurd ⟨c, hc, rfl⟩ h8
theorem fX10_aim_38 : Cond.fieldLink RX10 38 (TX10 3).1 (TX10 3).2.1 (TX10 3).2.2.1 ∈ wsX10_aim := List.mem_of_getElem? (i := 3) rfl
theorem iX10_aim_X10 : ∀ w ∈ wsX100, w ∈ wsX10_aim := by decide +kernel
set_option maxHeartbeats 4000000 in
set_option maxRecDepth 100000 in
theorem c_X10_aim {g : ww_G} {l : Launch} {n : Nat} {N : Nat} {aG : Nat} {gr : Nat} {gc : Nat} {gb : Nat} {gu : Nat} {aZ : Nat} {aT : Nat} {aE : Nat} {aTh : Nat} {aA : Nat} {aM : Nat} {ez : Nat} {la : Int32} {ma : Int32} {ee : Nat} {ll : Int32} {mm : Int32} (he : ee < 3) (hl : ¬ ll < 0) (hm : ll ≤ mm) : CT g l yX10_aim wsX10_aim (ww_rm 2) [.ref aZ, .int (nI ee), .int ll, .int mm] ([(aZ, .inr (11, [.ref aG, .ref aE, .ref aTh, .ref aA, .ref aM, .ref aT])), (aA, .inr (1, [.int (nI ez), .int la, .int ma]))]) (S := Unit) (fun vv9 u => vv9 = none) (fun u => [(aZ, .inr (11, [.ref aG, .ref aE, .ref aTh, .ref aA, .ref aM, .ref aT])), (aA, .inr (1, [.int (nI ee), .int ll, .int mm]))]) := by
  refine CT.of cX10_aim 4 none RX10 (by decide +kernel) rfl rfl (Nat.le_of_ble_eq_true rfl) ?_
  intro X hg hl C hret
  subst hg; subst hl
  show RW X 0 0 0 [(0, .ref aZ), (1, .int (nI ee)), (2, .int ll), (3, .int mm)] [] [(aZ, .inr (11, [.ref aG, .ref aE, .ref aTh, .ref aA, .ref aM, .ref aT])), (aA, .inr (1, [.int (nI ez), .int la, .int ma]))]
  refine r_iload_n C dX10_aim_0 1 rfl rfl ?_
  refine r_if_lt (tgt := 9) C dX10_aim_1 (by decide) (fun h1 => ?_) (fun h1 => ?_)
  · exact absurd h1 (nI_pos (by omega))
  · refine r_iload_n C dX10_aim_4 1 rfl rfl ?_
    refine r_iconst C dX10_aim_5 (v := nI 3) (by decide) ?_
    refine r_icmp_lt (tgt := 19) C dX10_aim_6 (by decide) (fun h6 => ?_) (fun h6 => ?_)
    · have h6 : ee < 3 := (nI_ltI (by omega) (by omega)).mp h6
      refine r_iload_n C dX10_aim_19 2 rfl rfl ?_
      refine r_if_lt (tgt := 28) C dX10_aim_20 (by decide) (fun h20 => ?_) (fun h20 => ?_)
      · exact absurd h20 hl
      · refine r_iload_n C dX10_aim_23 2 rfl rfl ?_
        refine r_iload_n C dX10_aim_24 3 rfl rfl ?_
        refine r_icmp_le (tgt := 38) C dX10_aim_25 (by decide) (fun h25 => ?_) (fun h25 => ?_)
        · refine r_aload_n C dX10_aim_38 0 rfl rfl ?_
          refine r_get C dX10_aim_39 iX10_aim_X10 3 fX10_aim_38 0 rfl rfl (by decide) rfl ?_
          refine r_iload_n C dX10_aim_42 1 rfl rfl ?_
          refine r_iload_n C dX10_aim_43 2 rfl rfl ?_
          refine r_iload_n C dX10_aim_44 3 rfl rfl ?_
          refine r_callV0 (n := 3) (ws' := fun (u : Unit) => [(aZ, .inr (11, [.ref aG, .ref aE, .ref aTh, .ref aA, .ref aM, .ref aT])), (aA, .inr (1, [.int (nI ee), .int ll, .int mm]))]) C dX10_aim_45 (c_X0_set (g := X.1) (l := X.2.2.1) (aA := aA) (ez := ez) (la := la) (ma := ma) (e2 := ee) (l2 := ll) (m2 := mm) ) gX10_aim_X0_set rfl (by decide +kernel) rfl ⟨Nat.le_of_ble_eq_true rfl, Nat.le_of_ble_eq_true rfl⟩ ⟨rfl, rfl⟩ ⟨Nat.zero_le _, Nat.zero_le _⟩ (rest := []) rfl (Nat.le_of_ble_eq_true rfl) 0 rfl rfl [1] (by decide) rfl (fun u => Eq.trans (b := [aA]) rfl rfl) (fun u => rfl) (fun v u hp => ?_)
          obtain rfl := hp
          show RW X 0 0 48 [(0, .ref aZ), (1, .int (nI ee)), (2, .int ll), (3, .int mm)] [] [(aZ, .inr (11, [.ref aG, .ref aE, .ref aTh, .ref aA, .ref aM, .ref aT])), (aA, .inr (1, [.int (nI ee), .int ll, .int mm]))]
          exact hret _ _ _ () rfl (Or.inl ⟨rfl, rfl, dX10_aim_48⟩)
        · exact absurd hm h25
    · have h6 : ¬ (ee < 3) := fun e9 => h6 ((nI_ltI (by omega) (by omega)).mpr e9)
      exact absurd he h6
theorem fX10_unit_54 : Cond.fieldLink RX10 54 (TX10 5).1 (TX10 5).2.1 (TX10 5).2.2.1 ∈ wsX10_unit := List.mem_of_getElem? (i := 1) rfl
theorem iX10_unit_X10 : ∀ w ∈ wsX100, w ∈ wsX10_unit := by decide +kernel
set_option maxHeartbeats 4000000 in
set_option maxRecDepth 100000 in
theorem c_X10_unit {g : ww_G} {l : Launch} {n : Nat} {N : Nat} {aG : Nat} {gr : Nat} {gc : Nat} {gb : Nat} {gu : Nat} {aZ : Nat} {aT : Nat} {aE : Nat} {aTh : Nat} {aA : Nat} {aM : Nat} {aY : Nat} {len : Nat} {ty : Nat → Nat} {tB : Nat} {tS : Nat} {uu : Int32} (hlen : len ≤ 60) : CT g l yX10_unit wsX10_unit (ww_rm 2) [.ref aZ, .int uu] ([(aZ, .inr (11, [.ref aG, .ref aE, .ref aTh, .ref aA, .ref aM, .ref aT])), (aT, .inr (10, [.ref aG, .ref tB, .ref aY, .int (nI len), .ref tS])), (aY, .inl (g.2.1, 60, .inl (nO ty)))]) (S := Nat × (Nat → Nat)) (fun vv9 u => vv9 = some (.int (bz (¬ uu < 0 ∧ uu ≤ nI 255 ∧ len < 60))) ∧ ((¬ uu < 0 ∧ uu ≤ nI 255 ∧ len < 60) → ∃ w, uu = nI w ∧ u.1 = len + 1 ∧ u.2 = uO ty len w) ∧ (¬ (¬ uu < 0 ∧ uu ≤ nI 255 ∧ len < 60) → u.1 = len ∧ u.2 = ty)) (fun u => [(aZ, .inr (11, [.ref aG, .ref aE, .ref aTh, .ref aA, .ref aM, .ref aT])), (aT, .inr (10, [.ref aG, .ref tB, .ref aY, .int (nI u.1), .ref tS])), (aY, .inl (g.2.1, 60, .inl (nO u.2)))]) := by
  refine CT.of cX10_unit 2 (some .boolean) RX10 (by decide +kernel) rfl rfl (Nat.le_of_ble_eq_true rfl) ?_
  intro X hg hl C hret
  subst hg; subst hl
  show RW X 0 0 0 [(0, .ref aZ), (1, .int uu)] [] [(aZ, .inr (11, [.ref aG, .ref aE, .ref aTh, .ref aA, .ref aM, .ref aT])), (aT, .inr (10, [.ref aG, .ref tB, .ref aY, .int (nI len), .ref tS])), (aY, .inl (X.1.2.1, 60, .inl (nO ty)))]
  refine r_aload_n C dX10_unit_0 0 rfl rfl ?_
  refine r_get C dX10_unit_1 iX10_unit_X10 5 fX10_unit_54 0 rfl rfl (by decide) rfl ?_
  refine r_iload_n C dX10_unit_4 1 rfl rfl ?_
  refine r_callV0 (n := 1) (ws' := fun (u : Nat × (Nat → Nat)) => [(aZ, .inr (11, [.ref aG, .ref aE, .ref aTh, .ref aA, .ref aM, .ref aT])), (aT, .inr (10, [.ref aG, .ref tB, .ref aY, .int (nI u.1), .ref tS])), (aY, .inl (X.1.2.1, 60, .inl (nO u.2)))]) C dX10_unit_5 (c_X9_add (g := X.1) (l := X.2.2.1) (aT := aT) (aY := aY) (len := len) (ty := ty) (aB := tB) (aS := tS) (aG := aG) (uu := uu) (hlen := (by first | assumption | omega))) gX10_unit_X9_add rfl (by decide +kernel) rfl ⟨Nat.le_of_ble_eq_true rfl, Nat.le_of_ble_eq_true rfl⟩ ⟨rfl, rfl⟩ ⟨Nat.zero_le _, Nat.zero_le _⟩ (rest := []) rfl (Nat.le_of_ble_eq_true rfl) 0 rfl rfl [1, 2] (by decide) rfl (fun u => Eq.trans (b := [aT, aY]) rfl rfl) (fun u => rfl) (fun v u hp => ?_)
  obtain ⟨l1, t1⟩ := u
  obtain ⟨rfl, p5_0, p5_1⟩ := hp
  try dsimp only at p5_0 p5_1
  show RW X 0 0 8 [(0, .ref aZ), (1, .int uu)] [.int (bz (¬ uu < 0 ∧ uu ≤ nI 255 ∧ len < 60))] [(aZ, .inr (11, [.ref aG, .ref aE, .ref aTh, .ref aA, .ref aM, .ref aT])), (aT, .inr (10, [.ref aG, .ref tB, .ref aY, .int (nI l1), .ref tS])), (aY, .inl (X.1.2.1, 60, .inl (nO t1)))]
  exact hret _ _ _ (l1, t1) ⟨rfl, p5_0, p5_1⟩ (Or.inr ⟨_, rfl, dX10_unit_8, Or.inr ⟨rfl, bz_01 _⟩⟩)
theorem fX10_text_47 : Cond.fieldLink RX10 47 (TX10 4).1 (TX10 4).2.1 (TX10 4).2.2.1 ∈ wsX10_text := List.mem_of_getElem? (i := 1) rfl
theorem iX10_text_X10 : ∀ w ∈ wsX100, w ∈ wsX10_text := by decide +kernel
theorem fX10_text_93 : Cond.fieldLink RX10 93 (TX5 13).1 (TX5 13).2.1 (TX5 13).2.2.1 ∈ wsX10_text := List.mem_of_getElem? (i := 2) rfl
theorem iX10_text_X5 : ∀ w ∈ wsX50, w ∈ wsX10_text := by decide +kernel
theorem fX10_text_12 : Cond.fieldLink RX10 12 (TX10 0).1 (TX10 0).2.1 (TX10 0).2.2.1 ∈ wsX10_text := List.mem_of_getElem? (i := 3) rfl
theorem fX10_text_97 : Cond.fieldLink RX10 97 (TX5 9).1 (TX5 9).2.1 (TX5 9).2.2.1 ∈ wsX10_text := List.mem_of_getElem? (i := 4) rfl
set_option maxHeartbeats 4000000 in
set_option maxRecDepth 100000 in
theorem c_X10_text {g : ww_G} {l : Launch} {n : Nat} {N : Nat} {aG : Nat} {gr : Nat} {gc : Nat} {gb : Nat} {gu : Nat} {aZ : Nat} {aT : Nat} {aE : Nat} {aTh : Nat} {aA : Nat} {aM : Nat} {aD : Nat} {aQ : Nat} {aW : Nat} {aH : Nat} {aWh : Nat} {aGv : Nat} {aMk : Nat} {aRw : Nat} {aWo : Nat} {md : Prop} {tm : Nat} {rs : Nat} {tk : Nat} {pb : Nat} {gn : Nat} {un : Nat} {gv : Nat → Option Nat} {ii : Int32} (hn : (n = 4 ∧ N = 16) ∨ (n = 6 ∧ N = 36)) (hvp : md → ∀ c v, gv c = some v → v < n) : CT g l yX10_text wsX10_text (ww_rm 2) [.ref aZ, .int ii] ([(aZ, .inr (11, [.ref aG, .ref aE, .ref aTh, .ref aA, .ref aM, .ref aT])), (aG, .inr (5, [.int (nI n), .int (nI N), .int (nI (2 ^ n - 1)), .ref gr, .ref gc, .ref gb, .ref gu])), (aM, .inr (6, [.ref aG, .ref aE, .ref aTh, .ref aA, .ref aD, .ref aQ, .ref aW, .ref aH, .ref aWh, .ref aGv, .ref aMk, .ref aRw, .ref aWo, .int (bz md), .int (nI tm), .int (nI rs), .int (nI tk), .int (nI pb), .int (nI gn), .int (nI un)])), (aGv, .inl (g.2.1, N, .inl (eb gv)))]) (S := Int32) (fun vv9 u => vv9 = some (.int u) ∧ (∀ j, j < N → ii = nI j → md → u = nI (bto (gv j))) ∧ (¬ (md ∧ ∃ j, j < N ∧ ii = nI j) → u = -1)) (fun u => [(aZ, .inr (11, [.ref aG, .ref aE, .ref aTh, .ref aA, .ref aM, .ref aT])), (aG, .inr (5, [.int (nI n), .int (nI N), .int (nI (2 ^ n - 1)), .ref gr, .ref gc, .ref gb, .ref gu])), (aM, .inr (6, [.ref aG, .ref aE, .ref aTh, .ref aA, .ref aD, .ref aQ, .ref aW, .ref aH, .ref aWh, .ref aGv, .ref aMk, .ref aRw, .ref aWo, .int (bz md), .int (nI tm), .int (nI rs), .int (nI tk), .int (nI pb), .int (nI gn), .int (nI un)])), (aGv, .inl (g.2.1, N, .inl (eb gv)))]) := by
  refine CT.of cX10_text 2 (some .int) RX10 (by decide +kernel) rfl rfl (Nat.le_of_ble_eq_true rfl) ?_
  intro X hg hl C hret
  subst hg; subst hl
  show RW X 0 0 0 [(0, .ref aZ), (1, .int ii)] [] [(aZ, .inr (11, [.ref aG, .ref aE, .ref aTh, .ref aA, .ref aM, .ref aT])), (aG, .inr (5, [.int (nI n), .int (nI N), .int (nI (2 ^ n - 1)), .ref gr, .ref gc, .ref gb, .ref gu])), (aM, .inr (6, [.ref aG, .ref aE, .ref aTh, .ref aA, .ref aD, .ref aQ, .ref aW, .ref aH, .ref aWh, .ref aGv, .ref aMk, .ref aRw, .ref aWo, .int (bz md), .int (nI tm), .int (nI rs), .int (nI tk), .int (nI pb), .int (nI gn), .int (nI un)])), (aGv, .inl (X.1.2.1, N, .inl (eb gv)))]
  refine r_aload_n C dX10_text_0 0 rfl rfl ?_
  refine r_get C dX10_text_1 iX10_text_X10 4 fX10_text_47 0 rfl rfl (by decide) rfl ?_
  refine r_get C dX10_text_4 iX10_text_X5 13 fX10_text_93 2 rfl rfl (by decide) rfl ?_
  refine r_if_eq (tgt := 21) C dX10_text_7 (by decide) (fun h7 => ?_) (fun h7 => ?_)
  · have h7 : ¬ (md) := bz_0.mp h7
    refine r_iconst C dX10_text_21 (v := (-1)) (by decide) ?_
    exact hret _ _ _ ((-1)) ⟨rfl, fun j q e w => absurd w h7, fun _ => rfl⟩ (Or.inr ⟨_, rfl, dX10_text_22, Or.inl rfl⟩)
  · have h7 : md := bz_n0.mp h7
    refine r_aload_n C dX10_text_10 0 rfl rfl ?_
    refine r_get C dX10_text_11 iX10_text_X10 0 fX10_text_12 0 rfl rfl (by decide) rfl ?_
    refine r_iload_n C dX10_text_14 1 rfl rfl ?_
    refine r_callV0 (n := 1) (ws' := fun (u : Unit) => [(aZ, .inr (11, [.ref aG, .ref aE, .ref aTh, .ref aA, .ref aM, .ref aT])), (aG, .inr (5, [.int (nI n), .int (nI N), .int (nI (2 ^ n - 1)), .ref gr, .ref gc, .ref gb, .ref gu])), (aM, .inr (6, [.ref aG, .ref aE, .ref aTh, .ref aA, .ref aD, .ref aQ, .ref aW, .ref aH, .ref aWh, .ref aGv, .ref aMk, .ref aRw, .ref aWo, .int (bz md), .int (nI tm), .int (nI rs), .int (nI tk), .int (nI pb), .int (nI gn), .int (nI un)])), (aGv, .inl (X.1.2.1, N, .inl (eb gv)))]) C dX10_text_15 (c_X4_has (g := X.1) (l := X.2.2.1) (n := n) (N := N) (aG := aG) (gr := gr) (gc := gc) (gb := gb) (gu := gu) (c := ii) (hn := (by first | assumption | omega))) gX10_text_X4_has rfl (by decide +kernel) rfl ⟨Nat.le_of_ble_eq_true rfl, Nat.le_of_ble_eq_true rfl⟩ ⟨rfl, rfl⟩ ⟨Nat.zero_le _, Nat.zero_le _⟩ (rest := []) rfl (Nat.le_of_ble_eq_true rfl) 0 rfl rfl [1] (by decide) rfl (fun u => Eq.trans (b := [aG]) rfl rfl) (fun u => rfl) (fun v u hp => ?_)
    obtain rfl := hp
    show RW X 0 0 18 [(0, .ref aZ), (1, .int ii)] [.int (bz (∃ j, j < N ∧ ii = nI j))] [(aZ, .inr (11, [.ref aG, .ref aE, .ref aTh, .ref aA, .ref aM, .ref aT])), (aG, .inr (5, [.int (nI n), .int (nI N), .int (nI (2 ^ n - 1)), .ref gr, .ref gc, .ref gb, .ref gu])), (aM, .inr (6, [.ref aG, .ref aE, .ref aTh, .ref aA, .ref aD, .ref aQ, .ref aW, .ref aH, .ref aWh, .ref aGv, .ref aMk, .ref aRw, .ref aWo, .int (bz md), .int (nI tm), .int (nI rs), .int (nI tk), .int (nI pb), .int (nI gn), .int (nI un)])), (aGv, .inl (X.1.2.1, N, .inl (eb gv)))]
    refine r_if_ne (tgt := 23) C dX10_text_18 (by decide) (fun h18 => ?_) (fun h18 => ?_)
    · have h18 : ∃ j, j < N ∧ ii = nI j := bz_n0.mp h18
      obtain ⟨j, hj, rfl⟩ := h18
      refine r_aload_n C dX10_text_23 0 rfl rfl ?_
      refine r_get C dX10_text_24 iX10_text_X10 4 fX10_text_47 0 rfl rfl (by decide) rfl ?_
      refine r_get C dX10_text_27 iX10_text_X5 9 fX10_text_97 2 rfl rfl (by decide) rfl ?_
      refine r_iload_n C dX10_text_30 1 rfl rfl ?_
      refine r_iald C dX10_text_31 3 rfl (by omega) (by omega) ?_
      refine r_top (y := eo (gv j)) rfl ?_
      refine r_callS0 (n := 1) (ws' := fun (u : Unit) => [(aZ, .inr (11, [.ref aG, .ref aE, .ref aTh, .ref aA, .ref aM, .ref aT])), (aG, .inr (5, [.int (nI n), .int (nI N), .int (nI (2 ^ n - 1)), .ref gr, .ref gc, .ref gb, .ref gu])), (aM, .inr (6, [.ref aG, .ref aE, .ref aTh, .ref aA, .ref aD, .ref aQ, .ref aW, .ref aH, .ref aWh, .ref aGv, .ref aMk, .ref aRw, .ref aWo, .int (bz md), .int (nI tm), .int (nI rs), .int (nI tk), .int (nI pb), .int (nI gn), .int (nI un)])), (aGv, .inl (X.1.2.1, N, .inl (eb gv)))]) C dX10_text_32 (c_X9_byteOf (g := X.1) (l := X.2.2.1) (o := gv j) (ho := (fun v e => by have := hvp h7 j v e; omega))) gX10_text_X9_byteOf rfl (by decide +kernel) rfl ⟨Nat.le_of_ble_eq_true rfl, Nat.le_of_ble_eq_true rfl⟩ ⟨rfl, rfl⟩ ⟨Nat.zero_le _, Nat.zero_le _⟩ (rest := []) rfl (Nat.le_of_ble_eq_true rfl) [] (by decide) rfl (fun u => Eq.trans (b := []) rfl rfl) (fun u => rfl) (fun v u hp => ?_)
      obtain rfl := hp
      show RW X 0 0 35 [(0, .ref aZ), (1, .int (nI j))] [.int (nI (bto (gv j)))] [(aZ, .inr (11, [.ref aG, .ref aE, .ref aTh, .ref aA, .ref aM, .ref aT])), (aG, .inr (5, [.int (nI n), .int (nI N), .int (nI (2 ^ n - 1)), .ref gr, .ref gc, .ref gb, .ref gu])), (aM, .inr (6, [.ref aG, .ref aE, .ref aTh, .ref aA, .ref aD, .ref aQ, .ref aW, .ref aH, .ref aWh, .ref aGv, .ref aMk, .ref aRw, .ref aWo, .int (bz md), .int (nI tm), .int (nI rs), .int (nI tk), .int (nI pb), .int (nI gn), .int (nI un)])), (aGv, .inl (X.1.2.1, N, .inl (eb gv)))]
      exact hret _ _ _ (nI (bto (gv j))) ⟨rfl, fun j2 q e _ => by
                have a : j = j2 := (nI_eq (by omega) (by omega)).mp e
                subst a; rfl, fun w => absurd ⟨h7, j, hj, rfl⟩ w⟩ (Or.inr ⟨_, rfl, dX10_text_35, Or.inl rfl⟩)
    · have h18 : ¬ (∃ j, j < N ∧ ii = nI j) := bz_0.mp h18
      refine r_iconst C dX10_text_21 (v := (-1)) (by decide) ?_
      exact hret _ _ _ ((-1)) ⟨rfl, fun j q e w => absurd ⟨j, q, e⟩ h18, fun _ => rfl⟩ (Or.inr ⟨_, rfl, dX10_text_22, Or.inl rfl⟩)
theorem fX10_answers_54 : Cond.fieldLink RX10 54 (TX10 5).1 (TX10 5).2.1 (TX10 5).2.2.1 ∈ wsX10_answers := List.mem_of_getElem? (i := 1) rfl
theorem iX10_answers_X10 : ∀ w ∈ wsX100, w ∈ wsX10_answers := by decide +kernel
theorem fX10_answers_47 : Cond.fieldLink RX10 47 (TX10 4).1 (TX10 4).2.1 (TX10 4).2.2.1 ∈ wsX10_answers := List.mem_of_getElem? (i := 2) rfl
theorem fX10_answers_140 : Cond.fieldLink RX10 140 (TX5 6).1 (TX5 6).2.1 (TX5 6).2.2.1 ∈ wsX10_answers := List.mem_of_getElem? (i := 3) rfl
theorem iX10_answers_X5 : ∀ w ∈ wsX50, w ∈ wsX10_answers := by decide +kernel
theorem fX10_answers_144 : Cond.fieldLink RX10 144 (TX9 4).1 (TX9 4).2.1 (TX9 4).2.2.1 ∈ wsX10_answers := List.mem_of_getElem? (i := 4) rfl
theorem iX10_answers_X9 : ∀ w ∈ wsX90, w ∈ wsX10_answers := by decide +kernel
set_option maxHeartbeats 4000000 in
set_option maxRecDepth 100000 in
theorem c_X10_answers {g : ww_G} {l : Launch} {n : Nat} {N : Nat} {aG : Nat} {gr : Nat} {gc : Nat} {gb : Nat} {gu : Nat} {aZ : Nat} {aT : Nat} {aE : Nat} {aTh : Nat} {aA : Nat} {aM : Nat} {aD : Nat} {aQ : Nat} {aW : Nat} {aH : Nat} {aWh : Nat} {aGv : Nat} {aMk : Nat} {aRw : Nat} {aWo : Nat} {md : Prop} {tm : Nat} {rs : Nat} {tk : Nat} {pb : Nat} {gn : Nat} {un : Nat} {aY : Nat} {len : Nat} {ty : Nat → Nat} {tB : Nat} {tS : Nat} {tR : Nat} {tC : Nat} {tX : Nat} {b : Nat → Option Nat} {aO : Nat} {lim : Nat} {fd : Nat} {o : Nat → Nat} {vB : Nat} {vS : Nat} {vR : Nat} {vC : Nat} {vX : Nat} {vf : Nat → Int32} {vfR : Nat → Int32} {vfC : Nat → Int32} {vfB : Nat → Int32} (hn : (n = 4 ∧ N = 16) ∨ (n = 6 ∧ N = 36)) (hlen : len ≤ 60) (hty : ∀ j, ty j < 1073741824) : CT g l yX10_answers wsX10_answers (ww_rm 61) [.ref aZ] ([(aZ, .inr (11, [.ref aG, .ref aE, .ref aTh, .ref aA, .ref aM, .ref aT])), (aM, .inr (6, [.ref aG, .ref aE, .ref aTh, .ref aA, .ref aD, .ref aQ, .ref aW, .ref aH, .ref aWh, .ref aGv, .ref aMk, .ref aRw, .ref aWo, .int (bz md), .int (nI tm), .int (nI rs), .int (nI tk), .int (nI pb), .int (nI gn), .int (nI un)])), (aG, .inr (5, [.int (nI n), .int (nI N), .int (nI (2 ^ n - 1)), .ref gr, .ref gc, .ref gb, .ref gu])), (gr, .inl (g.2.1, N, .inl (gR n))), (gc, .inl (g.2.1, N, .inl (gC n))), (gb, .inl (g.2.1, N, .inl (gB n))), (aT, .inr (10, [.ref aG, .ref tB, .ref aY, .int (nI len), .ref tS])), (aY, .inl (g.2.1, 60, .inl (nO ty))), (tB, .inr (2, [.ref aG, .ref tS, .ref tR, .ref tC, .ref tX])), (tS, .inl (g.2.1, N, .inl (eb b))), (tR, .inl (g.2.1, n, .inl (mR n N b))), (tC, .inl (g.2.1, n, .inl (mC n N b))), (tX, .inl (g.2.1, n, .inl (mB n N b))), (aW, .inr (9, [.ref vB, .ref aO, .int (nI lim), .int (nI fd)])), (aO, .inl (g.2.1, N, .inl (nO o))), (vB, .inr (2, [.ref aG, .ref vS, .ref vR, .ref vC, .ref vX])), (vS, .inl (g.2.1, N, .inl vf)), (vR, .inl (g.2.1, n, .inl vfR)), (vC, .inl (g.2.1, n, .inl vfC)), (vX, .inl (g.2.1, n, .inl vfB))]) (S := Int32 × Nat × Nat × (Nat → Nat) × (Nat → Int32) × (Nat → Int32) × (Nat → Int32) × (Nat → Int32)) (fun vv9 u => vv9 = some (.int u.1) ∧ ((rdF n N ty len N 0 (fun _ => none)).1 = none → u.1 = nI (min 100 (0 + cntS n N (rdF n N ty len N 0 (fun _ => none)).2))) ∧ (∀ c, (rdF n N ty len N 0 (fun _ => none)).1 = some c → u.1 = (-1) - nI c)) (fun u => [(aZ, .inr (11, [.ref aG, .ref aE, .ref aTh, .ref aA, .ref aM, .ref aT])), (aM, .inr (6, [.ref aG, .ref aE, .ref aTh, .ref aA, .ref aD, .ref aQ, .ref aW, .ref aH, .ref aWh, .ref aGv, .ref aMk, .ref aRw, .ref aWo, .int (bz md), .int (nI tm), .int (nI rs), .int (nI tk), .int (nI pb), .int (nI gn), .int (nI un)])), (aG, .inr (5, [.int (nI n), .int (nI N), .int (nI (2 ^ n - 1)), .ref gr, .ref gc, .ref gb, .ref gu])), (gr, .inl (g.2.1, N, .inl (gR n))), (gc, .inl (g.2.1, N, .inl (gC n))), (gb, .inl (g.2.1, N, .inl (gB n))), (aT, .inr (10, [.ref aG, .ref tB, .ref aY, .int (nI 0), .ref tS])), (aY, .inl (g.2.1, 60, .inl (nO ty))), (tB, .inr (2, [.ref aG, .ref tS, .ref tR, .ref tC, .ref tX])), (tS, .inl (g.2.1, N, .inl (eb ((rdF n N ty len N 0 (fun _ => none)).2)))), (tR, .inl (g.2.1, n, .inl (mR n N ((rdF n N ty len N 0 (fun _ => none)).2)))), (tC, .inl (g.2.1, n, .inl (mC n N ((rdF n N ty len N 0 (fun _ => none)).2)))), (tX, .inl (g.2.1, n, .inl (mB n N ((rdF n N ty len N 0 (fun _ => none)).2)))), (aW, .inr (9, [.ref vB, .ref aO, .int (nI u.2.1), .int (nI u.2.2.1)])), (aO, .inl (g.2.1, N, .inl (nO u.2.2.2.1))), (vB, .inr (2, [.ref aG, .ref vS, .ref vR, .ref vC, .ref vX])), (vS, .inl (g.2.1, N, .inl u.2.2.2.2.1)), (vR, .inl (g.2.1, n, .inl u.2.2.2.2.2.1)), (vC, .inl (g.2.1, n, .inl u.2.2.2.2.2.2.1)), (vX, .inl (g.2.1, n, .inl u.2.2.2.2.2.2.2))]) := by
  refine CT.of cX10_answers 2 (some .int) RX10 (by decide +kernel) rfl rfl (Nat.le_of_ble_eq_true rfl) ?_
  intro X hg hl C hret
  subst hg; subst hl
  show RW X 0 0 0 [(0, .ref aZ)] [] [(aZ, .inr (11, [.ref aG, .ref aE, .ref aTh, .ref aA, .ref aM, .ref aT])), (aM, .inr (6, [.ref aG, .ref aE, .ref aTh, .ref aA, .ref aD, .ref aQ, .ref aW, .ref aH, .ref aWh, .ref aGv, .ref aMk, .ref aRw, .ref aWo, .int (bz md), .int (nI tm), .int (nI rs), .int (nI tk), .int (nI pb), .int (nI gn), .int (nI un)])), (aG, .inr (5, [.int (nI n), .int (nI N), .int (nI (2 ^ n - 1)), .ref gr, .ref gc, .ref gb, .ref gu])), (gr, .inl (X.1.2.1, N, .inl (gR n))), (gc, .inl (X.1.2.1, N, .inl (gC n))), (gb, .inl (X.1.2.1, N, .inl (gB n))), (aT, .inr (10, [.ref aG, .ref tB, .ref aY, .int (nI len), .ref tS])), (aY, .inl (X.1.2.1, 60, .inl (nO ty))), (tB, .inr (2, [.ref aG, .ref tS, .ref tR, .ref tC, .ref tX])), (tS, .inl (X.1.2.1, N, .inl (eb b))), (tR, .inl (X.1.2.1, n, .inl (mR n N b))), (tC, .inl (X.1.2.1, n, .inl (mC n N b))), (tX, .inl (X.1.2.1, n, .inl (mB n N b))), (aW, .inr (9, [.ref vB, .ref aO, .int (nI lim), .int (nI fd)])), (aO, .inl (X.1.2.1, N, .inl (nO o))), (vB, .inr (2, [.ref aG, .ref vS, .ref vR, .ref vC, .ref vX])), (vS, .inl (X.1.2.1, N, .inl vf)), (vR, .inl (X.1.2.1, n, .inl vfR)), (vC, .inl (X.1.2.1, n, .inl vfC)), (vX, .inl (X.1.2.1, n, .inl vfB))]
  refine r_aload_n C dX10_answers_0 0 rfl rfl ?_
  refine r_get C dX10_answers_1 iX10_answers_X10 5 fX10_answers_54 0 rfl rfl (by decide) rfl ?_
  refine r_callV0 (n := 0) (ws' := fun (u : Unit) => [(aZ, .inr (11, [.ref aG, .ref aE, .ref aTh, .ref aA, .ref aM, .ref aT])), (aM, .inr (6, [.ref aG, .ref aE, .ref aTh, .ref aA, .ref aD, .ref aQ, .ref aW, .ref aH, .ref aWh, .ref aGv, .ref aMk, .ref aRw, .ref aWo, .int (bz md), .int (nI tm), .int (nI rs), .int (nI tk), .int (nI pb), .int (nI gn), .int (nI un)])), (aG, .inr (5, [.int (nI n), .int (nI N), .int (nI (2 ^ n - 1)), .ref gr, .ref gc, .ref gb, .ref gu])), (gr, .inl (X.1.2.1, N, .inl (gR n))), (gc, .inl (X.1.2.1, N, .inl (gC n))), (gb, .inl (X.1.2.1, N, .inl (gB n))), (aT, .inr (10, [.ref aG, .ref tB, .ref aY, .int (nI 0), .ref tS])), (aY, .inl (X.1.2.1, 60, .inl (nO ty))), (tB, .inr (2, [.ref aG, .ref tS, .ref tR, .ref tC, .ref tX])), (tS, .inl (X.1.2.1, N, .inl (eb ((rdF n N ty len N 0 (fun _ => none)).2)))), (tR, .inl (X.1.2.1, n, .inl (mR n N ((rdF n N ty len N 0 (fun _ => none)).2)))), (tC, .inl (X.1.2.1, n, .inl (mC n N ((rdF n N ty len N 0 (fun _ => none)).2)))), (tX, .inl (X.1.2.1, n, .inl (mB n N ((rdF n N ty len N 0 (fun _ => none)).2)))), (aW, .inr (9, [.ref vB, .ref aO, .int (nI lim), .int (nI fd)])), (aO, .inl (X.1.2.1, N, .inl (nO o))), (vB, .inr (2, [.ref aG, .ref vS, .ref vR, .ref vC, .ref vX])), (vS, .inl (X.1.2.1, N, .inl vf)), (vR, .inl (X.1.2.1, n, .inl vfR)), (vC, .inl (X.1.2.1, n, .inl vfC)), (vX, .inl (X.1.2.1, n, .inl vfB))]) C dX10_answers_4 (c_X9_read (g := X.1) (l := X.2.2.1) (n := n) (N := N) (aG := aG) (gr := gr) (gc := gc) (gb := gb) (gu := gu) (aB := tB) (aS := tS) (aR := tR) (aC := tC) (aX := tX) (b := b) (aT := aT) (aY := aY) (len := len) (ty := ty) (hn := (by first | assumption | omega)) (hlen := (by first | assumption | omega)) (hty := (by first | assumption | omega))) gX10_answers_X9_read rfl (by decide +kernel) rfl ⟨Nat.le_of_ble_eq_true rfl, Nat.le_of_ble_eq_true rfl⟩ ⟨rfl, rfl⟩ ⟨Nat.zero_le _, Nat.zero_le _⟩ (rest := []) rfl (Nat.le_of_ble_eq_true rfl) 0 rfl rfl [6, 7, 2, 3, 4, 5, 8, 9, 10, 11, 12] (by decide) rfl (fun u => Eq.trans (b := [aT, aY, aG, gr, gc, gb, tB, tS, tR, tC, tX]) rfl rfl) (fun u => rfl) (fun v u hp => ?_)
  obtain rfl := hp
  show RW X 0 0 7 [(0, .ref aZ)] [.int (eo (rdF n N ty len N 0 (fun _ => none)).1)] [(aZ, .inr (11, [.ref aG, .ref aE, .ref aTh, .ref aA, .ref aM, .ref aT])), (aM, .inr (6, [.ref aG, .ref aE, .ref aTh, .ref aA, .ref aD, .ref aQ, .ref aW, .ref aH, .ref aWh, .ref aGv, .ref aMk, .ref aRw, .ref aWo, .int (bz md), .int (nI tm), .int (nI rs), .int (nI tk), .int (nI pb), .int (nI gn), .int (nI un)])), (aG, .inr (5, [.int (nI n), .int (nI N), .int (nI (2 ^ n - 1)), .ref gr, .ref gc, .ref gb, .ref gu])), (gr, .inl (X.1.2.1, N, .inl (gR n))), (gc, .inl (X.1.2.1, N, .inl (gC n))), (gb, .inl (X.1.2.1, N, .inl (gB n))), (aT, .inr (10, [.ref aG, .ref tB, .ref aY, .int (nI 0), .ref tS])), (aY, .inl (X.1.2.1, 60, .inl (nO ty))), (tB, .inr (2, [.ref aG, .ref tS, .ref tR, .ref tC, .ref tX])), (tS, .inl (X.1.2.1, N, .inl (eb ((rdF n N ty len N 0 (fun _ => none)).2)))), (tR, .inl (X.1.2.1, n, .inl (mR n N ((rdF n N ty len N 0 (fun _ => none)).2)))), (tC, .inl (X.1.2.1, n, .inl (mC n N ((rdF n N ty len N 0 (fun _ => none)).2)))), (tX, .inl (X.1.2.1, n, .inl (mB n N ((rdF n N ty len N 0 (fun _ => none)).2)))), (aW, .inr (9, [.ref vB, .ref aO, .int (nI lim), .int (nI fd)])), (aO, .inl (X.1.2.1, N, .inl (nO o))), (vB, .inr (2, [.ref aG, .ref vS, .ref vR, .ref vC, .ref vX])), (vS, .inl (X.1.2.1, N, .inl vf)), (vR, .inl (X.1.2.1, n, .inl vfR)), (vC, .inl (X.1.2.1, n, .inl vfC)), (vX, .inl (X.1.2.1, n, .inl vfB))]
  refine r_istore_n C dX10_answers_7 rfl (by decide) [1, 0] (lv' := [(0, .ref aZ), (1, .int (eo (rdF n N ty len N 0 (fun _ => none)).1))]) rfl ?_
  refine r_iload_n C dX10_answers_8 1 rfl rfl ?_
  refine r_if_lt (tgt := 16) C dX10_answers_9 (by decide) (fun h9 => ?_) (fun h9 => ?_)
  · have hz : (rdF n N ty len N 0 (fun _ => none)).1 = none := eo_none h9 (n := 61) (fun v e => rdF_lt hn hlen e) (by omega)
    refine r_aload_n C dX10_answers_16 0 rfl rfl ?_
    refine r_get C dX10_answers_17 iX10_answers_X10 4 fX10_answers_47 0 rfl rfl (by decide) rfl ?_
    refine r_get C dX10_answers_20 iX10_answers_X5 6 fX10_answers_140 1 rfl rfl (by decide) rfl ?_
    refine r_aload_n C dX10_answers_23 0 rfl rfl ?_
    refine r_get C dX10_answers_24 iX10_answers_X10 5 fX10_answers_54 0 rfl rfl (by decide) rfl ?_
    refine r_get C dX10_answers_27 iX10_answers_X9 4 fX10_answers_144 6 rfl rfl (by decide) rfl ?_
    refine r_bipush C dX10_answers_30 (v := nI 100) (by decide) ?_
    refine r_callV0 (n := 2) (ws' := fun (u : (Nat → Nat)) => [(aZ, .inr (11, [.ref aG, .ref aE, .ref aTh, .ref aA, .ref aM, .ref aT])), (aM, .inr (6, [.ref aG, .ref aE, .ref aTh, .ref aA, .ref aD, .ref aQ, .ref aW, .ref aH, .ref aWh, .ref aGv, .ref aMk, .ref aRw, .ref aWo, .int (bz md), .int (nI tm), .int (nI rs), .int (nI tk), .int (nI pb), .int (nI gn), .int (nI un)])), (aG, .inr (5, [.int (nI n), .int (nI N), .int (nI (2 ^ n - 1)), .ref gr, .ref gc, .ref gb, .ref gu])), (gr, .inl (X.1.2.1, N, .inl (gR n))), (gc, .inl (X.1.2.1, N, .inl (gC n))), (gb, .inl (X.1.2.1, N, .inl (gB n))), (aT, .inr (10, [.ref aG, .ref tB, .ref aY, .int (nI 0), .ref tS])), (aY, .inl (X.1.2.1, 60, .inl (nO ty))), (tB, .inr (2, [.ref aG, .ref tS, .ref tR, .ref tC, .ref tX])), (tS, .inl (X.1.2.1, N, .inl (eb ((rdF n N ty len N 0 (fun _ => none)).2)))), (tR, .inl (X.1.2.1, n, .inl (mR n N ((rdF n N ty len N 0 (fun _ => none)).2)))), (tC, .inl (X.1.2.1, n, .inl (mC n N ((rdF n N ty len N 0 (fun _ => none)).2)))), (tX, .inl (X.1.2.1, n, .inl (mB n N ((rdF n N ty len N 0 (fun _ => none)).2)))), (aW, .inr (9, [.ref vB, .ref aO, .int (nI 100), .int (nI (min 100 (0 + cntS n N ((rdF n N ty len N 0 (fun _ => none)).2))))])), (aO, .inl (X.1.2.1, N, .inl (nO u))), (vB, .inr (2, [.ref aG, .ref vS, .ref vR, .ref vC, .ref vX])), (vS, .inl (X.1.2.1, N, .inl (eb ((rdF n N ty len N 0 (fun _ => none)).2)))), (vR, .inl (X.1.2.1, n, .inl (mR n N ((rdF n N ty len N 0 (fun _ => none)).2)))), (vC, .inl (X.1.2.1, n, .inl (mC n N ((rdF n N ty len N 0 (fun _ => none)).2)))), (vX, .inl (X.1.2.1, n, .inl (mB n N ((rdF n N ty len N 0 (fun _ => none)).2))))]) C dX10_answers_32 (c_X8_count (g := X.1) (l := X.2.2.1) (n := n) (N := N) (aG := aG) (gr := gr) (gc := gc) (gb := gb) (gu := gu) (aB := vB) (aS := vS) (aR := vR) (aC := vC) (aX := vX) (f := vf) (fR := vfR) (fC := vfC) (fB := vfB) (aW := aW) (aO := aO) (lim := lim) (fd := fd) (o := o) (aV := tS) (gv := (rdF n N ty len N 0 (fun _ => none)).2) (most := 100) (hn := (by first | assumption | omega)) (hok := rdF_ok) (hm0 := (by omega)) (hm1 := (by omega))) gX10_answers_X8_count rfl (by decide +kernel) rfl ⟨Nat.le_of_ble_eq_true rfl, Nat.le_of_ble_eq_true rfl⟩ ⟨rfl, rfl⟩ ⟨Nat.zero_le _, Nat.zero_le _⟩ (rest := []) rfl (Nat.le_of_ble_eq_true rfl) 0 rfl rfl [13, 14, 2, 3, 4, 5, 15, 16, 17, 18, 19, 9] (by decide) rfl (fun u => Eq.trans (b := [aW, aO, aG, gr, gc, gb, vB, vS, vR, vC, vX, tS]) rfl rfl) (fun u => rfl) (fun v u hp => ?_)
    obtain ⟨o9_2, rfl⟩ : ∃ z, z = u := ⟨_, rfl⟩
    obtain rfl := hp
    show RW X 0 0 35 [(0, .ref aZ), (1, .int (eo (rdF n N ty len N 0 (fun _ => none)).1))] [.int (nI (min 100 (0 + cntS n N ((rdF n N ty len N 0 (fun _ => none)).2))))] [(aZ, .inr (11, [.ref aG, .ref aE, .ref aTh, .ref aA, .ref aM, .ref aT])), (aM, .inr (6, [.ref aG, .ref aE, .ref aTh, .ref aA, .ref aD, .ref aQ, .ref aW, .ref aH, .ref aWh, .ref aGv, .ref aMk, .ref aRw, .ref aWo, .int (bz md), .int (nI tm), .int (nI rs), .int (nI tk), .int (nI pb), .int (nI gn), .int (nI un)])), (aG, .inr (5, [.int (nI n), .int (nI N), .int (nI (2 ^ n - 1)), .ref gr, .ref gc, .ref gb, .ref gu])), (gr, .inl (X.1.2.1, N, .inl (gR n))), (gc, .inl (X.1.2.1, N, .inl (gC n))), (gb, .inl (X.1.2.1, N, .inl (gB n))), (aT, .inr (10, [.ref aG, .ref tB, .ref aY, .int (nI 0), .ref tS])), (aY, .inl (X.1.2.1, 60, .inl (nO ty))), (tB, .inr (2, [.ref aG, .ref tS, .ref tR, .ref tC, .ref tX])), (tS, .inl (X.1.2.1, N, .inl (eb ((rdF n N ty len N 0 (fun _ => none)).2)))), (tR, .inl (X.1.2.1, n, .inl (mR n N ((rdF n N ty len N 0 (fun _ => none)).2)))), (tC, .inl (X.1.2.1, n, .inl (mC n N ((rdF n N ty len N 0 (fun _ => none)).2)))), (tX, .inl (X.1.2.1, n, .inl (mB n N ((rdF n N ty len N 0 (fun _ => none)).2)))), (aW, .inr (9, [.ref vB, .ref aO, .int (nI 100), .int (nI (min 100 (0 + cntS n N ((rdF n N ty len N 0 (fun _ => none)).2))))])), (aO, .inl (X.1.2.1, N, .inl (nO o9_2))), (vB, .inr (2, [.ref aG, .ref vS, .ref vR, .ref vC, .ref vX])), (vS, .inl (X.1.2.1, N, .inl (eb ((rdF n N ty len N 0 (fun _ => none)).2)))), (vR, .inl (X.1.2.1, n, .inl (mR n N ((rdF n N ty len N 0 (fun _ => none)).2)))), (vC, .inl (X.1.2.1, n, .inl (mC n N ((rdF n N ty len N 0 (fun _ => none)).2)))), (vX, .inl (X.1.2.1, n, .inl (mB n N ((rdF n N ty len N 0 (fun _ => none)).2))))]
    exact hret _ _ _ (nI (min 100 (0 + cntS n N (rdF n N ty len N 0 (fun _ => none)).2)), 100, min 100 (0 + cntS n N ((rdF n N ty len N 0 (fun _ => none)).2)), o9_2, eb ((rdF n N ty len N 0 (fun _ => none)).2), mR n N ((rdF n N ty len N 0 (fun _ => none)).2), mC n N ((rdF n N ty len N 0 (fun _ => none)).2), mB n N ((rdF n N ty len N 0 (fun _ => none)).2)) ⟨rfl, fun _ => rfl, fun c e => (by rw [hz] at e; cases e)⟩ (Or.inr ⟨_, rfl, dX10_answers_35, Or.inl rfl⟩)
  · obtain ⟨c, hz⟩ := eo_some h9
    refine r_lv [0, 1] (lv' := [(0, .ref aZ), (1, .int (nI c))]) (by rw [hz]; rfl) ?_
    refine r_iconst C dX10_answers_12 (v := (-1)) (by decide) ?_
    refine r_iload_n C dX10_answers_13 1 rfl rfl ?_
    refine r_isub C dX10_answers_14 (v := (-1) - (nI c)) rfl ?_
    exact hret _ _ _ ((-1) - nI c, lim, fd, o, vf, vfR, vfC, vfB) ⟨rfl, fun e => (by rw [hz] at e; cases e), fun c2 e => (by rw [hz] at e; cases e; rfl)⟩ (Or.inr ⟨_, rfl, dX10_answers_15, Or.inl rfl⟩)
