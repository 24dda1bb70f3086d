theorem vy_inA : ∀ w ∈ Cond.classLink RX10 65 vy_EA :: Cond.initialized vy_EA :: vx_atS RX10 69 vy_EA vy_NA, w ∈ vy_TL := fun w hw => List.mem_append_left _ hw
theorem vy_inI : ∀ w ∈ Cond.classLink RX10 72 vy_EI :: Cond.initialized vy_EI :: vx_atS RX10 76 vy_EI vy_NI, w ∈ vy_TL := fun w hw => List.mem_append_right _ (List.mem_append_left _ hw)
theorem vy_inL : Cond.classLink RL 13 vy_EA ∈ vy_TL ∧ Cond.classLink RL 15 vy_EI ∈ vy_TL ∧ Cond.castable vy_EA vy_EA ∈ vy_TL ∧ Cond.castable vy_EI vy_EI ∈ vy_TL :=
  ⟨List.mem_append_right _ (List.mem_append_right _ (List.mem_of_getElem? (i := 0) rfl)), List.mem_append_right _ (List.mem_append_right _ (List.mem_of_getElem? (i := 1) rfl)), List.mem_append_right _ (List.mem_append_right _ (List.mem_of_getElem? (i := 2) rfl)), List.mem_append_right _ (List.mem_append_right _ (List.mem_of_getElem? (i := 3) rfl))⟩
theorem lt3 {kk : Int32} (h : kk < nI 3) : kk ≤ nI 2 := by
  rw [Int32.lt_iff_toInt_lt, nI_toInt (by omega)] at h
  rw [Int32.le_iff_toInt_le, nI_toInt (by omega)]
  omega

set_option maxHeartbeats 4000000 in
set_option maxRecDepth 100000 in
theorem c_X10_theme_a {g : ww_G} {l : Launch} {sa : vy_S} (hl9 : l.stackTraces = false) {n : Nat} {N : Nat} {aG : Nat} {gr : Nat} {gc : Nat} {gb : Nat} {gu : Nat} {aZ : Nat} {aT : Nat} {aE : Nat} {aTh : Nat} {aA : Nat} {aM : Nat} {cc : Int32} {ww : Int32} (hn : (n = 4 ∧ N = 16) ∨ (n = 6 ∧ N = 36)) (hnc : ¬ (∃ j, j < N ∧ cc = nI j)) : CTX g l sa yX10_theme wsX10_theme ({ frames := 8, cells := 1, slots := 6, locals := 320 } : Room) [.ref aZ, .int cc, .int ww] ([(aZ, .inr (11, [.ref aG, .ref aE, .ref aTh, .ref aA, .ref aM, .ref aT])), (aG, .inr (5, [.int (nI n), .int (nI N), .int (nI (2 ^ n - 1)), .ref gr, .ref gc, .ref gb, .ref gu]))]) vy_EA := by
  refine CTX.of cX10_theme 3 none RX10 hl9 (by decide +kernel) rfl rfl (Nat.le_of_ble_eq_true rfl) ?_
  intro X hg hl C J
  subst hg; subst hl
  show RW X 0 0 0 [(0, .ref aZ), (1, .int cc), (2, .int ww)] [] [(aZ, .inr (11, [.ref aG, .ref aE, .ref aTh, .ref aA, .ref aM, .ref aT])), (aG, .inr (5, [.int (nI n), .int (nI N), .int (nI (2 ^ n - 1)), .ref gr, .ref gc, .ref gb, .ref gu]))]
  refine r_aload_n C dX10_theme_0 0 rfl rfl ?_
  refine r_get C dX10_theme_1 iX10_theme_X10 0 fX10_theme_12 0 rfl rfl (by decide) rfl ?_
  refine r_iload_n C dX10_theme_4 1 rfl rfl ?_
  refine r_callV0 (n := 1) (ws' := fun (u : Unit) => [(aZ, .inr (11, [.ref aG, .ref aE, .ref aTh, .ref aA, .ref aM, .ref aT])), (aG, .inr (5, [.int (nI n), .int (nI N), .int (nI (2 ^ n - 1)), .ref gr, .ref gc, .ref gb, .ref gu]))]) C dX10_theme_5 (c_X4_has (g := X.1) (l := X.2.2.1) (n := n) (N := N) (aG := aG) (gr := gr) (gc := gc) (gb := gb) (gu := gu) (c := cc) (hn := (by first | assumption | omega))) gX10_theme_X4_has rfl (by decide +kernel) rfl ⟨Nat.le_of_ble_eq_true rfl, Nat.le_of_ble_eq_true rfl⟩ ⟨rfl, rfl⟩ ⟨(by show 0 ≤ 1; omega), (by show 0 ≤ 6; omega)⟩ (rest := []) rfl (Nat.le_of_ble_eq_true rfl) 0 rfl rfl [1] (by decide) rfl (fun u => Eq.trans (b := [aG]) rfl rfl) (fun u => rfl) (fun v u hp => ?_)
  obtain rfl := hp
  show RW X 0 0 8 [(0, .ref aZ), (1, .int cc), (2, .int ww)] [.int (bz (∃ j, j < N ∧ cc = nI j))] [(aZ, .inr (11, [.ref aG, .ref aE, .ref aTh, .ref aA, .ref aM, .ref aT])), (aG, .inr (5, [.int (nI n), .int (nI N), .int (nI (2 ^ n - 1)), .ref gr, .ref gc, .ref gb, .ref gu]))]
  refine r_if_ne (tgt := 21) C dX10_theme_8 (by decide) (fun h8 => ?_) (fun h8 => ?_)
  · have h8 : ∃ j, j < N ∧ cc = nI j := bz_n0.mp h8
    exact absurd h8 hnc
  · have h8 : ¬ (∃ j, j < N ∧ cc = nI j) := bz_0.mp h8
    exact r_throw (names := vy_NA) (ik := 65) (is := 67) (ic := 69) (text := "there is no such cell") C J (by decide +kernel) (by decide +kernel) vy_inA (fun A U h => h.2.2.2.1) dX10_theme_11 dX10_theme_14 dX10_theme_15 dX10_theme_17 dX10_theme_20 ⟨by decide, by decide, by decide, by decide⟩

set_option maxHeartbeats 4000000 in
set_option maxRecDepth 100000 in
theorem c_X10_theme_i {g : ww_G} {l : Launch} {sa : vy_S} (hl9 : l.stackTraces = false) {n : Nat} {N : Nat} {aG : Nat} {gr : Nat} {gc : Nat} {gb : Nat} {gu : Nat} {aZ : Nat} {aT : Nat} {aE : Nat} {aTh : Nat} {aA : Nat} {aM : Nat} {c : Nat} {ww : Int32} (hn : (n = 4 ∧ N = 16) ∨ (n = 6 ∧ N = 36)) (hc : c < N) (hnw : ¬ ∃ k, k < 3 ∧ ww = nI k) : CTX g l sa yX10_theme wsX10_theme ({ frames := 8, cells := 1, slots := 6, locals := 320 } : Room) [.ref aZ, .int (nI c), .int ww] ([(aZ, .inr (11, [.ref aG, .ref aE, .ref aTh, .ref aA, .ref aM, .ref aT])), (aG, .inr (5, [.int (nI n), .int (nI N), .int (nI (2 ^ n - 1)), .ref gr, .ref gc, .ref gb, .ref gu]))]) vy_EI := by
  refine CTX.of cX10_theme 3 none RX10 hl9 (by decide +kernel) rfl rfl (Nat.le_of_ble_eq_true rfl) ?_
  intro X hg hl C J
  subst hg; subst hl
  show RW X 0 0 0 [(0, .ref aZ), (1, .int (nI c)), (2, .int ww)] [] [(aZ, .inr (11, [.ref aG, .ref aE, .ref aTh, .ref aA, .ref aM, .ref aT])), (aG, .inr (5, [.int (nI n), .int (nI N), .int (nI (2 ^ n - 1)), .ref gr, .ref gc, .ref gb, .ref gu]))]
  refine r_aload_n C dX10_theme_0 0 rfl rfl ?_
  refine r_get C dX10_theme_1 iX10_theme_X10 0 fX10_theme_12 0 rfl rfl (by decide) rfl ?_
  refine r_iload_n C dX10_theme_4 1 rfl rfl ?_
  refine r_callV0 (n := 1) (ws' := fun (u : Unit) => [(aZ, .inr (11, [.ref aG, .ref aE, .ref aTh, .ref aA, .ref aM, .ref aT])), (aG, .inr (5, [.int (nI n), .int (nI N), .int (nI (2 ^ n - 1)), .ref gr, .ref gc, .ref gb, .ref gu]))]) C dX10_theme_5 (c_X4_has (g := X.1) (l := X.2.2.1) (n := n) (N := N) (aG := aG) (gr := gr) (gc := gc) (gb := gb) (gu := gu) (c := nI c) (hn := (by first | assumption | omega))) gX10_theme_X4_has rfl (by decide +kernel) rfl ⟨Nat.le_of_ble_eq_true rfl, Nat.le_of_ble_eq_true rfl⟩ ⟨rfl, rfl⟩ ⟨(by show 0 ≤ 1; omega), (by show 0 ≤ 6; omega)⟩ (rest := []) rfl (Nat.le_of_ble_eq_true rfl) 0 rfl rfl [1] (by decide) rfl (fun u => Eq.trans (b := [aG]) rfl rfl) (fun u => rfl) (fun v u hp => ?_)
  obtain rfl := hp
  show RW X 0 0 8 [(0, .ref aZ), (1, .int (nI c)), (2, .int ww)] [.int (bz (∃ j, j < N ∧ (nI c) = nI j))] [(aZ, .inr (11, [.ref aG, .ref aE, .ref aTh, .ref aA, .ref aM, .ref aT])), (aG, .inr (5, [.int (nI n), .int (nI N), .int (nI (2 ^ n - 1)), .ref gr, .ref gc, .ref gb, .ref gu]))]
  refine r_if_ne (tgt := 21) C dX10_theme_8 (by decide) (fun h8 => ?_) (fun h8 => ?_)
  · have h8 : ∃ j, j < N ∧ (nI c) = nI j := bz_n0.mp h8
    refine r_iload_n C dX10_theme_21 2 rfl rfl ?_
    refine r_if_lt (tgt := 30) C dX10_theme_22 (by decide) (fun h22 => ?_) (fun h22 => ?_)
    · exact r_throw (names := vy_NI) (ik := 72) (is := 74) (ic := 76) (text := "there is no such theme") C J (by decide +kernel) (by decide +kernel) vy_inI (fun A U h => h.2.2.2.2.1) dX10_theme_30 dX10_theme_33 dX10_theme_34 dX10_theme_36 dX10_theme_39 ⟨by decide, by decide, by decide, by decide⟩
    · refine r_iload_n C dX10_theme_25 2 rfl rfl ?_
      refine r_iconst C dX10_theme_26 (v := nI 3) (by decide) ?_
      refine r_icmp_lt (tgt := 40) C dX10_theme_27 (by decide) (fun h27 => ?_) (fun h27 => ?_)
      · exact absurd (rg_in (m := 2) (by omega) h22 (lt3 h27)) hnw
      · exact r_throw (names := vy_NI) (ik := 72) (is := 74) (ic := 76) (text := "there is no such theme") C J (by decide +kernel) (by decide +kernel) vy_inI (fun A U h => h.2.2.2.2.1) dX10_theme_30 dX10_theme_33 dX10_theme_34 dX10_theme_36 dX10_theme_39 ⟨by decide, by decide, by decide, by decide⟩
  · have h8 : ¬ (∃ j, j < N ∧ (nI c) = nI j) := bz_0.mp h8
    exact absurd ⟨c, hc, rfl⟩ h8

set_option maxHeartbeats 4000000 in
set_option maxRecDepth 100000 in
theorem c_X10_aim_i {g : ww_G} {l : Launch} {sa : vy_S} (hl9 : l.stackTraces = false) {n : Nat} {N : Nat} {aG : Nat} {gr : Nat} {gc : Nat} {gb : Nat} {gu : Nat} {aZ : Nat} {aT : Nat} {aE : Nat} {aTh : Nat} {aA : Nat} {aM : Nat} {ee : Int32} {ll : Int32} {mm : Int32} (hna : ¬ ((∃ k, k < 3 ∧ ee = nI k) ∧ ¬ ll < 0 ∧ ll ≤ mm)) : CTX g l sa yX10_aim wsX10_aim ({ frames := 8, cells := 1, slots := 6, locals := 320 } : Room) [.ref aZ, .int ee, .int ll, .int mm] ([(aZ, .inr (11, [.ref aG, .ref aE, .ref aTh, .ref aA, .ref aM, .ref aT]))]) vy_EI := by
  refine CTX.of cX10_aim 4 none RX10 hl9 (by decide +kernel) rfl rfl (Nat.le_of_ble_eq_true rfl) ?_
  intro X hg hl C J
  subst hg; subst hl
  show RW X 0 0 0 [(0, .ref aZ), (1, .int ee), (2, .int ll), (3, .int mm)] [] [(aZ, .inr (11, [.ref aG, .ref aE, .ref aTh, .ref aA, .ref aM, .ref aT]))]
  refine r_iload_n C dX10_aim_0 1 rfl rfl ?_
  refine r_if_lt (tgt := 9) C dX10_aim_1 (by decide) (fun h1 => ?_) (fun h1 => ?_)
  · exact r_throw (names := vy_NI) (ik := 72) (is := 77) (ic := 76) (text := "easy is 0, 1 or 2") C J (by decide +kernel) (by decide +kernel) vy_inI (fun A U h => h.2.2.2.2.2.1) dX10_aim_9 dX10_aim_12 dX10_aim_13 dX10_aim_15 dX10_aim_18 ⟨by decide, by decide, by decide, by decide⟩
  · refine r_iload_n C dX10_aim_4 1 rfl rfl ?_
    refine r_iconst C dX10_aim_5 (v := nI 3) (by decide) ?_
    refine r_icmp_lt (tgt := 19) C dX10_aim_6 (by decide) (fun h6 => ?_) (fun h6 => ?_)
    · refine r_iload_n C dX10_aim_19 2 rfl rfl ?_
      refine r_if_lt (tgt := 28) C dX10_aim_20 (by decide) (fun h20 => ?_) (fun h20 => ?_)
      · exact r_throw (names := vy_NI) (ik := 72) (is := 79) (ic := 76) (text := "least is from 0 to most") C J (by decide +kernel) (by decide +kernel) vy_inI (fun A U h => h.2.2.2.2.2.2.1) dX10_aim_28 dX10_aim_31 dX10_aim_32 dX10_aim_34 dX10_aim_37 ⟨by decide, by decide, by decide, by decide⟩
      · refine r_iload_n C dX10_aim_23 2 rfl rfl ?_
        refine r_iload_n C dX10_aim_24 3 rfl rfl ?_
        refine r_icmp_le (tgt := 38) C dX10_aim_25 (by decide) (fun h25 => ?_) (fun h25 => ?_)
        · exact absurd ⟨rg_in (m := 2) (by omega) h1 (lt3 h6), h20, h25⟩ hna
        · exact r_throw (names := vy_NI) (ik := 72) (is := 79) (ic := 76) (text := "least is from 0 to most") C J (by decide +kernel) (by decide +kernel) vy_inI (fun A U h => h.2.2.2.2.2.2.1) dX10_aim_28 dX10_aim_31 dX10_aim_32 dX10_aim_34 dX10_aim_37 ⟨by decide, by decide, by decide, by decide⟩
    · exact r_throw (names := vy_NI) (ik := 72) (is := 77) (ic := 76) (text := "easy is 0, 1 or 2") C J (by decide +kernel) (by decide +kernel) vy_inI (fun A U h => h.2.2.2.2.2.1) dX10_aim_9 dX10_aim_12 dX10_aim_13 dX10_aim_15 dX10_aim_18 ⟨by decide, by decide, by decide, by decide⟩

set_option maxHeartbeats 4000000 in
set_option maxRecDepth 100000 in
theorem c_X10_given_a {g : ww_G} {l : Launch} {sa : vy_S} (hl9 : l.stackTraces = false) {n : Nat} {N : Nat} {aG : Nat} {gr : Nat} {gc : Nat} {gb : Nat} {gu : Nat} {aZ : Nat} {aT : Nat} {aE : Nat} {aTh : Nat} {aA : Nat} {aM : Nat} {cc : Int32} (hn : (n = 4 ∧ N = 16) ∨ (n = 6 ∧ N = 36)) (hnc : ¬ (∃ j, j < N ∧ cc = nI j)) : CTX g l sa yX10_given wsX10_given ({ frames := 8, cells := 1, slots := 6, locals := 320 } : Room) [.ref aZ, .int cc] ([(aZ, .inr (11, [.ref aG, .ref aE, .ref aTh, .ref aA, .ref aM, .ref aT])), (aG, .inr (5, [.int (nI n), .int (nI N), .int (nI (2 ^ n - 1)), .ref gr, .ref gc, .ref gb, .ref gu]))]) vy_EA := by
  refine CTX.of cX10_given 2 (some .int) RX10 hl9 (by decide +kernel) rfl rfl (Nat.le_of_ble_eq_true rfl) ?_
  intro X hg hl C J
  subst hg; subst hl
  show RW X 0 0 0 [(0, .ref aZ), (1, .int cc)] [] [(aZ, .inr (11, [.ref aG, .ref aE, .ref aTh, .ref aA, .ref aM, .ref aT])), (aG, .inr (5, [.int (nI n), .int (nI N), .int (nI (2 ^ n - 1)), .ref gr, .ref gc, .ref gb, .ref gu]))]
  refine r_aload_n C dX10_given_0 0 rfl rfl ?_
  refine r_get C dX10_given_1 iX10_given_X10 0 fX10_given_12 0 rfl rfl (by decide) rfl ?_
  refine r_iload_n C dX10_given_4 1 rfl rfl ?_
  refine r_callV0 (n := 1) (ws' := fun (u : Unit) => [(aZ, .inr (11, [.ref aG, .ref aE, .ref aTh, .ref aA, .ref aM, .ref aT])), (aG, .inr (5, [.int (nI n), .int (nI N), .int (nI (2 ^ n - 1)), .ref gr, .ref gc, .ref gb, .ref gu]))]) C dX10_given_5 (c_X4_has (g := X.1) (l := X.2.2.1) (n := n) (N := N) (aG := aG) (gr := gr) (gc := gc) (gb := gb) (gu := gu) (c := cc) (hn := (by first | assumption | omega))) gX10_given_X4_has rfl (by decide +kernel) rfl ⟨Nat.le_of_ble_eq_true rfl, Nat.le_of_ble_eq_true rfl⟩ ⟨rfl, rfl⟩ ⟨(by show 0 ≤ 1; omega), (by show 0 ≤ 6; omega)⟩ (rest := []) rfl (Nat.le_of_ble_eq_true rfl) 0 rfl rfl [1] (by decide) rfl (fun u => Eq.trans (b := [aG]) rfl rfl) (fun u => rfl) (fun v u hp => ?_)
  obtain rfl := hp
  show RW X 0 0 8 [(0, .ref aZ), (1, .int cc)] [.int (bz (∃ j, j < N ∧ cc = nI j))] [(aZ, .inr (11, [.ref aG, .ref aE, .ref aTh, .ref aA, .ref aM, .ref aT])), (aG, .inr (5, [.int (nI n), .int (nI N), .int (nI (2 ^ n - 1)), .ref gr, .ref gc, .ref gb, .ref gu]))]
  refine r_if_ne (tgt := 21) C dX10_given_8 (by decide) (fun h8 => ?_) (fun h8 => ?_)
  · have h8 : ∃ j, j < N ∧ cc = nI j := bz_n0.mp h8
    exact absurd h8 hnc
  · have h8 : ¬ (∃ j, j < N ∧ cc = nI j) := bz_0.mp h8
    exact r_throw (names := vy_NA) (ik := 65) (is := 67) (ic := 69) (text := "there is no such cell") C J (by decide +kernel) (by decide +kernel) vy_inA (fun A U h => h.2.2.2.1) dX10_given_11 dX10_given_14 dX10_given_15 dX10_given_17 dX10_given_20 ⟨by decide, by decide, by decide, by decide⟩

set_option maxHeartbeats 4000000 in
set_option maxRecDepth 100000 in
theorem c_X10_answer_a {g : ww_G} {l : Launch} {sa : vy_S} (hl9 : l.stackTraces = false) {n : Nat} {N : Nat} {aG : Nat} {gr : Nat} {gc : Nat} {gb : Nat} {gu : Nat} {aZ : Nat} {aT : Nat} {aE : Nat} {aTh : Nat} {aA : Nat} {aM : Nat} {cc : Int32} (hn : (n = 4 ∧ N = 16) ∨ (n = 6 ∧ N = 36)) (hnc : ¬ (∃ j, j < N ∧ cc = nI j)) : CTX g l sa yX10_answer wsX10_answer ({ frames := 8, cells := 1, slots := 6, locals := 320 } : Room) [.ref aZ, .int cc] ([(aZ, .inr (11, [.ref aG, .ref aE, .ref aTh, .ref aA, .ref aM, .ref aT])), (aG, .inr (5, [.int (nI n), .int (nI N), .int (nI (2 ^ n - 1)), .ref gr, .ref gc, .ref gb, .ref gu]))]) vy_EA := by
  refine CTX.of cX10_answer 2 (some .int) RX10 hl9 (by decide +kernel) rfl rfl (Nat.le_of_ble_eq_true rfl) ?_
  intro X hg hl C J
  subst hg; subst hl
  show RW X 0 0 0 [(0, .ref aZ), (1, .int cc)] [] [(aZ, .inr (11, [.ref aG, .ref aE, .ref aTh, .ref aA, .ref aM, .ref aT])), (aG, .inr (5, [.int (nI n), .int (nI N), .int (nI (2 ^ n - 1)), .ref gr, .ref gc, .ref gb, .ref gu]))]
  refine r_aload_n C dX10_answer_0 0 rfl rfl ?_
  refine r_get C dX10_answer_1 iX10_answer_X10 0 fX10_answer_12 0 rfl rfl (by decide) rfl ?_
  refine r_iload_n C dX10_answer_4 1 rfl rfl ?_
  refine r_callV0 (n := 1) (ws' := fun (u : Unit) => [(aZ, .inr (11, [.ref aG, .ref aE, .ref aTh, .ref aA, .ref aM, .ref aT])), (aG, .inr (5, [.int (nI n), .int (nI N), .int (nI (2 ^ n - 1)), .ref gr, .ref gc, .ref gb, .ref gu]))]) C dX10_answer_5 (c_X4_has (g := X.1) (l := X.2.2.1) (n := n) (N := N) (aG := aG) (gr := gr) (gc := gc) (gb := gb) (gu := gu) (c := cc) (hn := (by first | assumption | omega))) gX10_answer_X4_has rfl (by decide +kernel) rfl ⟨Nat.le_of_ble_eq_true rfl, Nat.le_of_ble_eq_true rfl⟩ ⟨rfl, rfl⟩ ⟨(by show 0 ≤ 1; omega), (by show 0 ≤ 6; omega)⟩ (rest := []) rfl (Nat.le_of_ble_eq_true rfl) 0 rfl rfl [1] (by decide) rfl (fun u => Eq.trans (b := [aG]) rfl rfl) (fun u => rfl) (fun v u hp => ?_)
  obtain rfl := hp
  show RW X 0 0 8 [(0, .ref aZ), (1, .int cc)] [.int (bz (∃ j, j < N ∧ cc = nI j))] [(aZ, .inr (11, [.ref aG, .ref aE, .ref aTh, .ref aA, .ref aM, .ref aT])), (aG, .inr (5, [.int (nI n), .int (nI N), .int (nI (2 ^ n - 1)), .ref gr, .ref gc, .ref gb, .ref gu]))]
  refine r_if_ne (tgt := 21) C dX10_answer_8 (by decide) (fun h8 => ?_) (fun h8 => ?_)
  · have h8 : ∃ j, j < N ∧ cc = nI j := bz_n0.mp h8
    exact absurd h8 hnc
  · have h8 : ¬ (∃ j, j < N ∧ cc = nI j) := bz_0.mp h8
    exact r_throw (names := vy_NA) (ik := 65) (is := 67) (ic := 69) (text := "there is no such cell") C J (by decide +kernel) (by decide +kernel) vy_inA (fun A U h => h.2.2.2.1) dX10_answer_11 dX10_answer_14 dX10_answer_15 dX10_answer_17 dX10_answer_20 ⟨by decide, by decide, by decide, by decide⟩

set_option maxHeartbeats 4000000 in
set_option maxRecDepth 100000 in
theorem c_X10_needed_a {g : ww_G} {l : Launch} {sa : vy_S} (hl9 : l.stackTraces = false) {n : Nat} {N : Nat} {aG : Nat} {gr : Nat} {gc : Nat} {gb : Nat} {gu : Nat} {aZ : Nat} {aT : Nat} {aE : Nat} {aTh : Nat} {aA : Nat} {aM : Nat} {cc : Int32} (hn : (n = 4 ∧ N = 16) ∨ (n = 6 ∧ N = 36)) (hnc : ¬ (∃ j, j < N ∧ cc = nI j)) : CTX g l sa yX10_needed wsX10_needed ({ frames := 8, cells := 1, slots := 6, locals := 320 } : Room) [.ref aZ, .int cc] ([(aZ, .inr (11, [.ref aG, .ref aE, .ref aTh, .ref aA, .ref aM, .ref aT])), (aG, .inr (5, [.int (nI n), .int (nI N), .int (nI (2 ^ n - 1)), .ref gr, .ref gc, .ref gb, .ref gu]))]) vy_EA := by
  refine CTX.of cX10_needed 2 (some .boolean) RX10 hl9 (by decide +kernel) rfl rfl (Nat.le_of_ble_eq_true rfl) ?_
  intro X hg hl C J
  subst hg; subst hl
  show RW X 0 0 0 [(0, .ref aZ), (1, .int cc)] [] [(aZ, .inr (11, [.ref aG, .ref aE, .ref aTh, .ref aA, .ref aM, .ref aT])), (aG, .inr (5, [.int (nI n), .int (nI N), .int (nI (2 ^ n - 1)), .ref gr, .ref gc, .ref gb, .ref gu]))]
  refine r_aload_n C dX10_needed_0 0 rfl rfl ?_
  refine r_get C dX10_needed_1 iX10_needed_X10 0 fX10_needed_12 0 rfl rfl (by decide) rfl ?_
  refine r_iload_n C dX10_needed_4 1 rfl rfl ?_
  refine r_callV0 (n := 1) (ws' := fun (u : Unit) => [(aZ, .inr (11, [.ref aG, .ref aE, .ref aTh, .ref aA, .ref aM, .ref aT])), (aG, .inr (5, [.int (nI n), .int (nI N), .int (nI (2 ^ n - 1)), .ref gr, .ref gc, .ref gb, .ref gu]))]) C dX10_needed_5 (c_X4_has (g := X.1) (l := X.2.2.1) (n := n) (N := N) (aG := aG) (gr := gr) (gc := gc) (gb := gb) (gu := gu) (c := cc) (hn := (by first | assumption | omega))) gX10_needed_X4_has rfl (by decide +kernel) rfl ⟨Nat.le_of_ble_eq_true rfl, Nat.le_of_ble_eq_true rfl⟩ ⟨rfl, rfl⟩ ⟨(by show 0 ≤ 1; omega), (by show 0 ≤ 6; omega)⟩ (rest := []) rfl (Nat.le_of_ble_eq_true rfl) 0 rfl rfl [1] (by decide) rfl (fun u => Eq.trans (b := [aG]) rfl rfl) (fun u => rfl) (fun v u hp => ?_)
  obtain rfl := hp
  show RW X 0 0 8 [(0, .ref aZ), (1, .int cc)] [.int (bz (∃ j, j < N ∧ cc = nI j))] [(aZ, .inr (11, [.ref aG, .ref aE, .ref aTh, .ref aA, .ref aM, .ref aT])), (aG, .inr (5, [.int (nI n), .int (nI N), .int (nI (2 ^ n - 1)), .ref gr, .ref gc, .ref gb, .ref gu]))]
  refine r_if_ne (tgt := 21) C dX10_needed_8 (by decide) (fun h8 => ?_) (fun h8 => ?_)
  · have h8 : ∃ j, j < N ∧ cc = nI j := bz_n0.mp h8
    exact absurd h8 hnc
  · have h8 : ¬ (∃ j, j < N ∧ cc = nI j) := bz_0.mp h8
    exact r_throw (names := vy_NA) (ik := 65) (is := 67) (ic := 69) (text := "there is no such cell") C J (by decide +kernel) (by decide +kernel) vy_inA (fun A U h => h.2.2.2.1) dX10_needed_11 dX10_needed_14 dX10_needed_15 dX10_needed_17 dX10_needed_20 ⟨by decide, by decide, by decide, by decide⟩
