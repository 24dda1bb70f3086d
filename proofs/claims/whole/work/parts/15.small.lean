theorem ntz_z : ∀ m, m < 64 → 0 < m → (nI m ^^^ (-1)) &&& (nI m - nI 1) = nI (2 ^ ntz m - 1) := by decide +kernel
theorem ntz_c : ∀ m, m < 64 → 0 < m → (ntz m = 0 ∨ ntz m = 1 ∨ ntz m = 2 ∨ ntz m = 3 ∨ ntz m = 4 ∨ ntz m = 5) := by decide +kernel
theorem nz_u1 : ∀ z, z < 64 → ((nI z).toUInt32 >>> ((nI 1).toUInt32 &&& Int32.toUInt32 31)).toInt32 = nI (z / 2) := by decide +kernel
theorem nz_u2 : ∀ z, z < 64 → ((nI z).toUInt32 >>> ((nI 2).toUInt32 &&& Int32.toUInt32 31)).toInt32 = nI (z / 4) := by decide +kernel
theorem nz_u4 : ∀ z, z < 64 → ((nI z).toUInt32 >>> ((nI 4).toUInt32 &&& Int32.toUInt32 31)).toInt32 = nI (z / 16) := by decide +kernel
theorem kJ6_bitCount_0f7a4_265 : Cond.constant RJ6 265 (1431655765) ∈ wsJ6_bitCount_0f7a4 := List.mem_of_getElem? (i := 1) rfl
theorem kJ6_bitCount_0f7a4_266 : Cond.constant RJ6 266 (858993459) ∈ wsJ6_bitCount_0f7a4 := List.mem_of_getElem? (i := 2) rfl
theorem kJ6_bitCount_0f7a4_267 : Cond.constant RJ6 267 (252645135) ∈ wsJ6_bitCount_0f7a4 := List.mem_of_getElem? (i := 3) rfl
set_option maxHeartbeats 4000000 in
set_option maxRecDepth 100000 in
theorem c_J6_bitCount_0f7a4 {g : ww_G} {l : Launch} {m : Nat} (hm : m < 64) : CT g l yJ6_bitCount_0f7a4 wsJ6_bitCount_0f7a4 (ww_rm 1) [.int (nI m)] ([]) (S := Unit) (fun v u => v = some (.int (nI (pcb m 6)))) (fun u => []) := by
  refine CT.of cJ6_bitCount_0f7a4 1 (some .int) RJ6 (by decide +kernel) rfl rfl (Nat.le_of_ble_eq_true rfl) ?_
  intro X hg hl C hret
  subst hg; subst hl
  show RW X 0 0 0 [(0, .int (nI m))] [] []
  refine r_iload_n C dJ6_bitCount_0f7a4_0 0 rfl rfl ?_
  refine r_iload_n C dJ6_bitCount_0f7a4_1 0 rfl rfl ?_
  refine r_iconst C dJ6_bitCount_0f7a4_2 (v := nI 1) (by decide) ?_
  refine r_iushr C dJ6_bitCount_0f7a4_3 (v := ((nI m).toUInt32 >>> ((nI 1).toUInt32 &&& Int32.toUInt32 31)).toInt32) rfl ?_
  refine r_ldcw C dJ6_bitCount_0f7a4_4 kJ6_bitCount_0f7a4_265 ?_
  refine r_iand C dJ6_bitCount_0f7a4_7 (v := (((nI m).toUInt32 >>> ((nI 1).toUInt32 &&& Int32.toUInt32 31)).toInt32) &&& (1431655765)) rfl ?_
  refine r_isub C dJ6_bitCount_0f7a4_8 (v := (nI m) - ((((nI m).toUInt32 >>> ((nI 1).toUInt32 &&& Int32.toUInt32 31)).toInt32) &&& (1431655765))) rfl ?_
  refine r_istore_n C dJ6_bitCount_0f7a4_9 rfl (by decide) [0] (lv' := [(0, .int ((nI m) - ((((nI m).toUInt32 >>> ((nI 1).toUInt32 &&& Int32.toUInt32 31)).toInt32) &&& (1431655765))))]) rfl ?_
  refine r_iload_n C dJ6_bitCount_0f7a4_10 0 rfl rfl ?_
  refine r_ldcw C dJ6_bitCount_0f7a4_11 kJ6_bitCount_0f7a4_266 ?_
  refine r_iand C dJ6_bitCount_0f7a4_14 (v := ((nI m) - ((((nI m).toUInt32 >>> ((nI 1).toUInt32 &&& Int32.toUInt32 31)).toInt32) &&& (1431655765))) &&& (858993459)) rfl ?_
  refine r_iload_n C dJ6_bitCount_0f7a4_15 0 rfl rfl ?_
  refine r_iconst C dJ6_bitCount_0f7a4_16 (v := nI 2) (by decide) ?_
  refine r_iushr C dJ6_bitCount_0f7a4_17 (v := (((nI m) - ((((nI m).toUInt32 >>> ((nI 1).toUInt32 &&& Int32.toUInt32 31)).toInt32) &&& (1431655765))).toUInt32 >>> ((nI 2).toUInt32 &&& Int32.toUInt32 31)).toInt32) rfl ?_
  refine r_ldcw C dJ6_bitCount_0f7a4_18 kJ6_bitCount_0f7a4_266 ?_
  refine r_iand C dJ6_bitCount_0f7a4_21 (v := ((((nI m) - ((((nI m).toUInt32 >>> ((nI 1).toUInt32 &&& Int32.toUInt32 31)).toInt32) &&& (1431655765))).toUInt32 >>> ((nI 2).toUInt32 &&& Int32.toUInt32 31)).toInt32) &&& (858993459)) rfl ?_
  refine r_iadd C dJ6_bitCount_0f7a4_22 (v := (((nI m) - ((((nI m).toUInt32 >>> ((nI 1).toUInt32 &&& Int32.toUInt32 31)).toInt32) &&& (1431655765))) &&& (858993459)) + (((((nI m) - ((((nI m).toUInt32 >>> ((nI 1).toUInt32 &&& Int32.toUInt32 31)).toInt32) &&& (1431655765))).toUInt32 >>> ((nI 2).toUInt32 &&& Int32.toUInt32 31)).toInt32) &&& (858993459))) rfl ?_
  refine r_istore_n C dJ6_bitCount_0f7a4_23 rfl (by decide) [0] (lv' := [(0, .int ((((nI m) - ((((nI m).toUInt32 >>> ((nI 1).toUInt32 &&& Int32.toUInt32 31)).toInt32) &&& (1431655765))) &&& (858993459)) + (((((nI m) - ((((nI m).toUInt32 >>> ((nI 1).toUInt32 &&& Int32.toUInt32 31)).toInt32) &&& (1431655765))).toUInt32 >>> ((nI 2).toUInt32 &&& Int32.toUInt32 31)).toInt32) &&& (858993459))))]) rfl ?_
  refine r_iload_n C dJ6_bitCount_0f7a4_24 0 rfl rfl ?_
  refine r_iload_n C dJ6_bitCount_0f7a4_25 0 rfl rfl ?_
  refine r_iconst C dJ6_bitCount_0f7a4_26 (v := nI 4) (by decide) ?_
  refine r_iushr C dJ6_bitCount_0f7a4_27 (v := (((((nI m) - ((((nI m).toUInt32 >>> ((nI 1).toUInt32 &&& Int32.toUInt32 31)).toInt32) &&& (1431655765))) &&& (858993459)) + (((((nI m) - ((((nI m).toUInt32 >>> ((nI 1).toUInt32 &&& Int32.toUInt32 31)).toInt32) &&& (1431655765))).toUInt32 >>> ((nI 2).toUInt32 &&& Int32.toUInt32 31)).toInt32) &&& (858993459))).toUInt32 >>> ((nI 4).toUInt32 &&& Int32.toUInt32 31)).toInt32) rfl ?_
  refine r_iadd C dJ6_bitCount_0f7a4_28 (v := ((((nI m) - ((((nI m).toUInt32 >>> ((nI 1).toUInt32 &&& Int32.toUInt32 31)).toInt32) &&& (1431655765))) &&& (858993459)) + (((((nI m) - ((((nI m).toUInt32 >>> ((nI 1).toUInt32 &&& Int32.toUInt32 31)).toInt32) &&& (1431655765))).toUInt32 >>> ((nI 2).toUInt32 &&& Int32.toUInt32 31)).toInt32) &&& (858993459))) + ((((((nI m) - ((((nI m).toUInt32 >>> ((nI 1).toUInt32 &&& Int32.toUInt32 31)).toInt32) &&& (1431655765))) &&& (858993459)) + (((((nI m) - ((((nI m).toUInt32 >>> ((nI 1).toUInt32 &&& Int32.toUInt32 31)).toInt32) &&& (1431655765))).toUInt32 >>> ((nI 2).toUInt32 &&& Int32.toUInt32 31)).toInt32) &&& (858993459))).toUInt32 >>> ((nI 4).toUInt32 &&& Int32.toUInt32 31)).toInt32)) rfl ?_
  refine r_ldcw C dJ6_bitCount_0f7a4_29 kJ6_bitCount_0f7a4_267 ?_
  refine r_iand C dJ6_bitCount_0f7a4_32 (v := (((((nI m) - ((((nI m).toUInt32 >>> ((nI 1).toUInt32 &&& Int32.toUInt32 31)).toInt32) &&& (1431655765))) &&& (858993459)) + (((((nI m) - ((((nI m).toUInt32 >>> ((nI 1).toUInt32 &&& Int32.toUInt32 31)).toInt32) &&& (1431655765))).toUInt32 >>> ((nI 2).toUInt32 &&& Int32.toUInt32 31)).toInt32) &&& (858993459))) + ((((((nI m) - ((((nI m).toUInt32 >>> ((nI 1).toUInt32 &&& Int32.toUInt32 31)).toInt32) &&& (1431655765))) &&& (858993459)) + (((((nI m) - ((((nI m).toUInt32 >>> ((nI 1).toUInt32 &&& Int32.toUInt32 31)).toInt32) &&& (1431655765))).toUInt32 >>> ((nI 2).toUInt32 &&& Int32.toUInt32 31)).toInt32) &&& (858993459))).toUInt32 >>> ((nI 4).toUInt32 &&& Int32.toUInt32 31)).toInt32)) &&& (252645135)) rfl ?_
  refine r_istore_n C dJ6_bitCount_0f7a4_33 rfl (by decide) [0] (lv' := [(0, .int ((((((nI m) - ((((nI m).toUInt32 >>> ((nI 1).toUInt32 &&& Int32.toUInt32 31)).toInt32) &&& (1431655765))) &&& (858993459)) + (((((nI m) - ((((nI m).toUInt32 >>> ((nI 1).toUInt32 &&& Int32.toUInt32 31)).toInt32) &&& (1431655765))).toUInt32 >>> ((nI 2).toUInt32 &&& Int32.toUInt32 31)).toInt32) &&& (858993459))) + ((((((nI m) - ((((nI m).toUInt32 >>> ((nI 1).toUInt32 &&& Int32.toUInt32 31)).toInt32) &&& (1431655765))) &&& (858993459)) + (((((nI m) - ((((nI m).toUInt32 >>> ((nI 1).toUInt32 &&& Int32.toUInt32 31)).toInt32) &&& (1431655765))).toUInt32 >>> ((nI 2).toUInt32 &&& Int32.toUInt32 31)).toInt32) &&& (858993459))).toUInt32 >>> ((nI 4).toUInt32 &&& Int32.toUInt32 31)).toInt32)) &&& (252645135)))]) rfl ?_
  refine r_iload_n C dJ6_bitCount_0f7a4_34 0 rfl rfl ?_
  refine r_iload_n C dJ6_bitCount_0f7a4_35 0 rfl rfl ?_
  refine r_bipush C dJ6_bitCount_0f7a4_36 (v := nI 8) (by decide) ?_
  refine r_iushr C dJ6_bitCount_0f7a4_38 (v := (((((((nI m) - ((((nI m).toUInt32 >>> ((nI 1).toUInt32 &&& Int32.toUInt32 31)).toInt32) &&& (1431655765))) &&& (858993459)) + (((((nI m) - ((((nI m).toUInt32 >>> ((nI 1).toUInt32 &&& Int32.toUInt32 31)).toInt32) &&& (1431655765))).toUInt32 >>> ((nI 2).toUInt32 &&& Int32.toUInt32 31)).toInt32) &&& (858993459))) + ((((((nI m) - ((((nI m).toUInt32 >>> ((nI 1).toUInt32 &&& Int32.toUInt32 31)).toInt32) &&& (1431655765))) &&& (858993459)) + (((((nI m) - ((((nI m).toUInt32 >>> ((nI 1).toUInt32 &&& Int32.toUInt32 31)).toInt32) &&& (1431655765))).toUInt32 >>> ((nI 2).toUInt32 &&& Int32.toUInt32 31)).toInt32) &&& (858993459))).toUInt32 >>> ((nI 4).toUInt32 &&& Int32.toUInt32 31)).toInt32)) &&& (252645135)).toUInt32 >>> ((nI 8).toUInt32 &&& Int32.toUInt32 31)).toInt32) rfl ?_
  refine r_iadd C dJ6_bitCount_0f7a4_39 (v := ((((((nI m) - ((((nI m).toUInt32 >>> ((nI 1).toUInt32 &&& Int32.toUInt32 31)).toInt32) &&& (1431655765))) &&& (858993459)) + (((((nI m) - ((((nI m).toUInt32 >>> ((nI 1).toUInt32 &&& Int32.toUInt32 31)).toInt32) &&& (1431655765))).toUInt32 >>> ((nI 2).toUInt32 &&& Int32.toUInt32 31)).toInt32) &&& (858993459))) + ((((((nI m) - ((((nI m).toUInt32 >>> ((nI 1).toUInt32 &&& Int32.toUInt32 31)).toInt32) &&& (1431655765))) &&& (858993459)) + (((((nI m) - ((((nI m).toUInt32 >>> ((nI 1).toUInt32 &&& Int32.toUInt32 31)).toInt32) &&& (1431655765))).toUInt32 >>> ((nI 2).toUInt32 &&& Int32.toUInt32 31)).toInt32) &&& (858993459))).toUInt32 >>> ((nI 4).toUInt32 &&& Int32.toUInt32 31)).toInt32)) &&& (252645135)) + ((((((((nI m) - ((((nI m).toUInt32 >>> ((nI 1).toUInt32 &&& Int32.toUInt32 31)).toInt32) &&& (1431655765))) &&& (858993459)) + (((((nI m) - ((((nI m).toUInt32 >>> ((nI 1).toUInt32 &&& Int32.toUInt32 31)).toInt32) &&& (1431655765))).toUInt32 >>> ((nI 2).toUInt32 &&& Int32.toUInt32 31)).toInt32) &&& (858993459))) + ((((((nI m) - ((((nI m).toUInt32 >>> ((nI 1).toUInt32 &&& Int32.toUInt32 31)).toInt32) &&& (1431655765))) &&& (858993459)) + (((((nI m) - ((((nI m).toUInt32 >>> ((nI 1).toUInt32 &&& Int32.toUInt32 31)).toInt32) &&& (1431655765))).toUInt32 >>> ((nI 2).toUInt32 &&& Int32.toUInt32 31)).toInt32) &&& (858993459))).toUInt32 >>> ((nI 4).toUInt32 &&& Int32.toUInt32 31)).toInt32)) &&& (252645135)).toUInt32 >>> ((nI 8).toUInt32 &&& Int32.toUInt32 31)).toInt32)) rfl ?_
  refine r_istore_n C dJ6_bitCount_0f7a4_40 rfl (by decide) [0] (lv' := [(0, .int (((((((nI m) - ((((nI m).toUInt32 >>> ((nI 1).toUInt32 &&& Int32.toUInt32 31)).toInt32) &&& (1431655765))) &&& (858993459)) + (((((nI m) - ((((nI m).toUInt32 >>> ((nI 1).toUInt32 &&& Int32.toUInt32 31)).toInt32) &&& (1431655765))).toUInt32 >>> ((nI 2).toUInt32 &&& Int32.toUInt32 31)).toInt32) &&& (858993459))) + ((((((nI m) - ((((nI m).toUInt32 >>> ((nI 1).toUInt32 &&& Int32.toUInt32 31)).toInt32) &&& (1431655765))) &&& (858993459)) + (((((nI m) - ((((nI m).toUInt32 >>> ((nI 1).toUInt32 &&& Int32.toUInt32 31)).toInt32) &&& (1431655765))).toUInt32 >>> ((nI 2).toUInt32 &&& Int32.toUInt32 31)).toInt32) &&& (858993459))).toUInt32 >>> ((nI 4).toUInt32 &&& Int32.toUInt32 31)).toInt32)) &&& (252645135)) + ((((((((nI m) - ((((nI m).toUInt32 >>> ((nI 1).toUInt32 &&& Int32.toUInt32 31)).toInt32) &&& (1431655765))) &&& (858993459)) + (((((nI m) - ((((nI m).toUInt32 >>> ((nI 1).toUInt32 &&& Int32.toUInt32 31)).toInt32) &&& (1431655765))).toUInt32 >>> ((nI 2).toUInt32 &&& Int32.toUInt32 31)).toInt32) &&& (858993459))) + ((((((nI m) - ((((nI m).toUInt32 >>> ((nI 1).toUInt32 &&& Int32.toUInt32 31)).toInt32) &&& (1431655765))) &&& (858993459)) + (((((nI m) - ((((nI m).toUInt32 >>> ((nI 1).toUInt32 &&& Int32.toUInt32 31)).toInt32) &&& (1431655765))).toUInt32 >>> ((nI 2).toUInt32 &&& Int32.toUInt32 31)).toInt32) &&& (858993459))).toUInt32 >>> ((nI 4).toUInt32 &&& Int32.toUInt32 31)).toInt32)) &&& (252645135)).toUInt32 >>> ((nI 8).toUInt32 &&& Int32.toUInt32 31)).toInt32)))]) rfl ?_
  refine r_iload_n C dJ6_bitCount_0f7a4_41 0 rfl rfl ?_
  refine r_iload_n C dJ6_bitCount_0f7a4_42 0 rfl rfl ?_
  refine r_bipush C dJ6_bitCount_0f7a4_43 (v := nI 16) (by decide) ?_
  refine r_iushr C dJ6_bitCount_0f7a4_45 (v := ((((((((nI m) - ((((nI m).toUInt32 >>> ((nI 1).toUInt32 &&& Int32.toUInt32 31)).toInt32) &&& (1431655765))) &&& (858993459)) + (((((nI m) - ((((nI m).toUInt32 >>> ((nI 1).toUInt32 &&& Int32.toUInt32 31)).toInt32) &&& (1431655765))).toUInt32 >>> ((nI 2).toUInt32 &&& Int32.toUInt32 31)).toInt32) &&& (858993459))) + ((((((nI m) - ((((nI m).toUInt32 >>> ((nI 1).toUInt32 &&& Int32.toUInt32 31)).toInt32) &&& (1431655765))) &&& (858993459)) + (((((nI m) - ((((nI m).toUInt32 >>> ((nI 1).toUInt32 &&& Int32.toUInt32 31)).toInt32) &&& (1431655765))).toUInt32 >>> ((nI 2).toUInt32 &&& Int32.toUInt32 31)).toInt32) &&& (858993459))).toUInt32 >>> ((nI 4).toUInt32 &&& Int32.toUInt32 31)).toInt32)) &&& (252645135)) + ((((((((nI m) - ((((nI m).toUInt32 >>> ((nI 1).toUInt32 &&& Int32.toUInt32 31)).toInt32) &&& (1431655765))) &&& (858993459)) + (((((nI m) - ((((nI m).toUInt32 >>> ((nI 1).toUInt32 &&& Int32.toUInt32 31)).toInt32) &&& (1431655765))).toUInt32 >>> ((nI 2).toUInt32 &&& Int32.toUInt32 31)).toInt32) &&& (858993459))) + ((((((nI m) - ((((nI m).toUInt32 >>> ((nI 1).toUInt32 &&& Int32.toUInt32 31)).toInt32) &&& (1431655765))) &&& (858993459)) + (((((nI m) - ((((nI m).toUInt32 >>> ((nI 1).toUInt32 &&& Int32.toUInt32 31)).toInt32) &&& (1431655765))).toUInt32 >>> ((nI 2).toUInt32 &&& Int32.toUInt32 31)).toInt32) &&& (858993459))).toUInt32 >>> ((nI 4).toUInt32 &&& Int32.toUInt32 31)).toInt32)) &&& (252645135)).toUInt32 >>> ((nI 8).toUInt32 &&& Int32.toUInt32 31)).toInt32)).toUInt32 >>> ((nI 16).toUInt32 &&& Int32.toUInt32 31)).toInt32) rfl ?_
  refine r_iadd C dJ6_bitCount_0f7a4_46 (v := (((((((nI m) - ((((nI m).toUInt32 >>> ((nI 1).toUInt32 &&& Int32.toUInt32 31)).toInt32) &&& (1431655765))) &&& (858993459)) + (((((nI m) - ((((nI m).toUInt32 >>> ((nI 1).toUInt32 &&& Int32.toUInt32 31)).toInt32) &&& (1431655765))).toUInt32 >>> ((nI 2).toUInt32 &&& Int32.toUInt32 31)).toInt32) &&& (858993459))) + ((((((nI m) - ((((nI m).toUInt32 >>> ((nI 1).toUInt32 &&& Int32.toUInt32 31)).toInt32) &&& (1431655765))) &&& (858993459)) + (((((nI m) - ((((nI m).toUInt32 >>> ((nI 1).toUInt32 &&& Int32.toUInt32 31)).toInt32) &&& (1431655765))).toUInt32 >>> ((nI 2).toUInt32 &&& Int32.toUInt32 31)).toInt32) &&& (858993459))).toUInt32 >>> ((nI 4).toUInt32 &&& Int32.toUInt32 31)).toInt32)) &&& (252645135)) + ((((((((nI m) - ((((nI m).toUInt32 >>> ((nI 1).toUInt32 &&& Int32.toUInt32 31)).toInt32) &&& (1431655765))) &&& (858993459)) + (((((nI m) - ((((nI m).toUInt32 >>> ((nI 1).toUInt32 &&& Int32.toUInt32 31)).toInt32) &&& (1431655765))).toUInt32 >>> ((nI 2).toUInt32 &&& Int32.toUInt32 31)).toInt32) &&& (858993459))) + ((((((nI m) - ((((nI m).toUInt32 >>> ((nI 1).toUInt32 &&& Int32.toUInt32 31)).toInt32) &&& (1431655765))) &&& (858993459)) + (((((nI m) - ((((nI m).toUInt32 >>> ((nI 1).toUInt32 &&& Int32.toUInt32 31)).toInt32) &&& (1431655765))).toUInt32 >>> ((nI 2).toUInt32 &&& Int32.toUInt32 31)).toInt32) &&& (858993459))).toUInt32 >>> ((nI 4).toUInt32 &&& Int32.toUInt32 31)).toInt32)) &&& (252645135)).toUInt32 >>> ((nI 8).toUInt32 &&& Int32.toUInt32 31)).toInt32)) + (((((((((nI m) - ((((nI m).toUInt32 >>> ((nI 1).toUInt32 &&& Int32.toUInt32 31)).toInt32) &&& (1431655765))) &&& (858993459)) + (((((nI m) - ((((nI m).toUInt32 >>> ((nI 1).toUInt32 &&& Int32.toUInt32 31)).toInt32) &&& (1431655765))).toUInt32 >>> ((nI 2).toUInt32 &&& Int32.toUInt32 31)).toInt32) &&& (858993459))) + ((((((nI m) - ((((nI m).toUInt32 >>> ((nI 1).toUInt32 &&& Int32.toUInt32 31)).toInt32) &&& (1431655765))) &&& (858993459)) + (((((nI m) - ((((nI m).toUInt32 >>> ((nI 1).toUInt32 &&& Int32.toUInt32 31)).toInt32) &&& (1431655765))).toUInt32 >>> ((nI 2).toUInt32 &&& Int32.toUInt32 31)).toInt32) &&& (858993459))).toUInt32 >>> ((nI 4).toUInt32 &&& Int32.toUInt32 31)).toInt32)) &&& (252645135)) + ((((((((nI m) - ((((nI m).toUInt32 >>> ((nI 1).toUInt32 &&& Int32.toUInt32 31)).toInt32) &&& (1431655765))) &&& (858993459)) + (((((nI m) - ((((nI m).toUInt32 >>> ((nI 1).toUInt32 &&& Int32.toUInt32 31)).toInt32) &&& (1431655765))).toUInt32 >>> ((nI 2).toUInt32 &&& Int32.toUInt32 31)).toInt32) &&& (858993459))) + ((((((nI m) - ((((nI m).toUInt32 >>> ((nI 1).toUInt32 &&& Int32.toUInt32 31)).toInt32) &&& (1431655765))) &&& (858993459)) + (((((nI m) - ((((nI m).toUInt32 >>> ((nI 1).toUInt32 &&& Int32.toUInt32 31)).toInt32) &&& (1431655765))).toUInt32 >>> ((nI 2).toUInt32 &&& Int32.toUInt32 31)).toInt32) &&& (858993459))).toUInt32 >>> ((nI 4).toUInt32 &&& Int32.toUInt32 31)).toInt32)) &&& (252645135)).toUInt32 >>> ((nI 8).toUInt32 &&& Int32.toUInt32 31)).toInt32)).toUInt32 >>> ((nI 16).toUInt32 &&& Int32.toUInt32 31)).toInt32)) rfl ?_
  refine r_istore_n C dJ6_bitCount_0f7a4_47 rfl (by decide) [0] (lv' := [(0, .int ((((((((nI m) - ((((nI m).toUInt32 >>> ((nI 1).toUInt32 &&& Int32.toUInt32 31)).toInt32) &&& (1431655765))) &&& (858993459)) + (((((nI m) - ((((nI m).toUInt32 >>> ((nI 1).toUInt32 &&& Int32.toUInt32 31)).toInt32) &&& (1431655765))).toUInt32 >>> ((nI 2).toUInt32 &&& Int32.toUInt32 31)).toInt32) &&& (858993459))) + ((((((nI m) - ((((nI m).toUInt32 >>> ((nI 1).toUInt32 &&& Int32.toUInt32 31)).toInt32) &&& (1431655765))) &&& (858993459)) + (((((nI m) - ((((nI m).toUInt32 >>> ((nI 1).toUInt32 &&& Int32.toUInt32 31)).toInt32) &&& (1431655765))).toUInt32 >>> ((nI 2).toUInt32 &&& Int32.toUInt32 31)).toInt32) &&& (858993459))).toUInt32 >>> ((nI 4).toUInt32 &&& Int32.toUInt32 31)).toInt32)) &&& (252645135)) + ((((((((nI m) - ((((nI m).toUInt32 >>> ((nI 1).toUInt32 &&& Int32.toUInt32 31)).toInt32) &&& (1431655765))) &&& (858993459)) + (((((nI m) - ((((nI m).toUInt32 >>> ((nI 1).toUInt32 &&& Int32.toUInt32 31)).toInt32) &&& (1431655765))).toUInt32 >>> ((nI 2).toUInt32 &&& Int32.toUInt32 31)).toInt32) &&& (858993459))) + ((((((nI m) - ((((nI m).toUInt32 >>> ((nI 1).toUInt32 &&& Int32.toUInt32 31)).toInt32) &&& (1431655765))) &&& (858993459)) + (((((nI m) - ((((nI m).toUInt32 >>> ((nI 1).toUInt32 &&& Int32.toUInt32 31)).toInt32) &&& (1431655765))).toUInt32 >>> ((nI 2).toUInt32 &&& Int32.toUInt32 31)).toInt32) &&& (858993459))).toUInt32 >>> ((nI 4).toUInt32 &&& Int32.toUInt32 31)).toInt32)) &&& (252645135)).toUInt32 >>> ((nI 8).toUInt32 &&& Int32.toUInt32 31)).toInt32)) + (((((((((nI m) - ((((nI m).toUInt32 >>> ((nI 1).toUInt32 &&& Int32.toUInt32 31)).toInt32) &&& (1431655765))) &&& (858993459)) + (((((nI m) - ((((nI m).toUInt32 >>> ((nI 1).toUInt32 &&& Int32.toUInt32 31)).toInt32) &&& (1431655765))).toUInt32 >>> ((nI 2).toUInt32 &&& Int32.toUInt32 31)).toInt32) &&& (858993459))) + ((((((nI m) - ((((nI m).toUInt32 >>> ((nI 1).toUInt32 &&& Int32.toUInt32 31)).toInt32) &&& (1431655765))) &&& (858993459)) + (((((nI m) - ((((nI m).toUInt32 >>> ((nI 1).toUInt32 &&& Int32.toUInt32 31)).toInt32) &&& (1431655765))).toUInt32 >>> ((nI 2).toUInt32 &&& Int32.toUInt32 31)).toInt32) &&& (858993459))).toUInt32 >>> ((nI 4).toUInt32 &&& Int32.toUInt32 31)).toInt32)) &&& (252645135)) + ((((((((nI m) - ((((nI m).toUInt32 >>> ((nI 1).toUInt32 &&& Int32.toUInt32 31)).toInt32) &&& (1431655765))) &&& (858993459)) + (((((nI m) - ((((nI m).toUInt32 >>> ((nI 1).toUInt32 &&& Int32.toUInt32 31)).toInt32) &&& (1431655765))).toUInt32 >>> ((nI 2).toUInt32 &&& Int32.toUInt32 31)).toInt32) &&& (858993459))) + ((((((nI m) - ((((nI m).toUInt32 >>> ((nI 1).toUInt32 &&& Int32.toUInt32 31)).toInt32) &&& (1431655765))) &&& (858993459)) + (((((nI m) - ((((nI m).toUInt32 >>> ((nI 1).toUInt32 &&& Int32.toUInt32 31)).toInt32) &&& (1431655765))).toUInt32 >>> ((nI 2).toUInt32 &&& Int32.toUInt32 31)).toInt32) &&& (858993459))).toUInt32 >>> ((nI 4).toUInt32 &&& Int32.toUInt32 31)).toInt32)) &&& (252645135)).toUInt32 >>> ((nI 8).toUInt32 &&& Int32.toUInt32 31)).toInt32)).toUInt32 >>> ((nI 16).toUInt32 &&& Int32.toUInt32 31)).toInt32)))]) rfl ?_
  refine r_iload_n C dJ6_bitCount_0f7a4_48 0 rfl rfl ?_
  refine r_bipush C dJ6_bitCount_0f7a4_49 (v := nI 63) (by decide) ?_
  refine r_iand C dJ6_bitCount_0f7a4_51 (v := ((((((((nI m) - ((((nI m).toUInt32 >>> ((nI 1).toUInt32 &&& Int32.toUInt32 31)).toInt32) &&& (1431655765))) &&& (858993459)) + (((((nI m) - ((((nI m).toUInt32 >>> ((nI 1).toUInt32 &&& Int32.toUInt32 31)).toInt32) &&& (1431655765))).toUInt32 >>> ((nI 2).toUInt32 &&& Int32.toUInt32 31)).toInt32) &&& (858993459))) + ((((((nI m) - ((((nI m).toUInt32 >>> ((nI 1).toUInt32 &&& Int32.toUInt32 31)).toInt32) &&& (1431655765))) &&& (858993459)) + (((((nI m) - ((((nI m).toUInt32 >>> ((nI 1).toUInt32 &&& Int32.toUInt32 31)).toInt32) &&& (1431655765))).toUInt32 >>> ((nI 2).toUInt32 &&& Int32.toUInt32 31)).toInt32) &&& (858993459))).toUInt32 >>> ((nI 4).toUInt32 &&& Int32.toUInt32 31)).toInt32)) &&& (252645135)) + ((((((((nI m) - ((((nI m).toUInt32 >>> ((nI 1).toUInt32 &&& Int32.toUInt32 31)).toInt32) &&& (1431655765))) &&& (858993459)) + (((((nI m) - ((((nI m).toUInt32 >>> ((nI 1).toUInt32 &&& Int32.toUInt32 31)).toInt32) &&& (1431655765))).toUInt32 >>> ((nI 2).toUInt32 &&& Int32.toUInt32 31)).toInt32) &&& (858993459))) + ((((((nI m) - ((((nI m).toUInt32 >>> ((nI 1).toUInt32 &&& Int32.toUInt32 31)).toInt32) &&& (1431655765))) &&& (858993459)) + (((((nI m) - ((((nI m).toUInt32 >>> ((nI 1).toUInt32 &&& Int32.toUInt32 31)).toInt32) &&& (1431655765))).toUInt32 >>> ((nI 2).toUInt32 &&& Int32.toUInt32 31)).toInt32) &&& (858993459))).toUInt32 >>> ((nI 4).toUInt32 &&& Int32.toUInt32 31)).toInt32)) &&& (252645135)).toUInt32 >>> ((nI 8).toUInt32 &&& Int32.toUInt32 31)).toInt32)) + (((((((((nI m) - ((((nI m).toUInt32 >>> ((nI 1).toUInt32 &&& Int32.toUInt32 31)).toInt32) &&& (1431655765))) &&& (858993459)) + (((((nI m) - ((((nI m).toUInt32 >>> ((nI 1).toUInt32 &&& Int32.toUInt32 31)).toInt32) &&& (1431655765))).toUInt32 >>> ((nI 2).toUInt32 &&& Int32.toUInt32 31)).toInt32) &&& (858993459))) + ((((((nI m) - ((((nI m).toUInt32 >>> ((nI 1).toUInt32 &&& Int32.toUInt32 31)).toInt32) &&& (1431655765))) &&& (858993459)) + (((((nI m) - ((((nI m).toUInt32 >>> ((nI 1).toUInt32 &&& Int32.toUInt32 31)).toInt32) &&& (1431655765))).toUInt32 >>> ((nI 2).toUInt32 &&& Int32.toUInt32 31)).toInt32) &&& (858993459))).toUInt32 >>> ((nI 4).toUInt32 &&& Int32.toUInt32 31)).toInt32)) &&& (252645135)) + ((((((((nI m) - ((((nI m).toUInt32 >>> ((nI 1).toUInt32 &&& Int32.toUInt32 31)).toInt32) &&& (1431655765))) &&& (858993459)) + (((((nI m) - ((((nI m).toUInt32 >>> ((nI 1).toUInt32 &&& Int32.toUInt32 31)).toInt32) &&& (1431655765))).toUInt32 >>> ((nI 2).toUInt32 &&& Int32.toUInt32 31)).toInt32) &&& (858993459))) + ((((((nI m) - ((((nI m).toUInt32 >>> ((nI 1).toUInt32 &&& Int32.toUInt32 31)).toInt32) &&& (1431655765))) &&& (858993459)) + (((((nI m) - ((((nI m).toUInt32 >>> ((nI 1).toUInt32 &&& Int32.toUInt32 31)).toInt32) &&& (1431655765))).toUInt32 >>> ((nI 2).toUInt32 &&& Int32.toUInt32 31)).toInt32) &&& (858993459))).toUInt32 >>> ((nI 4).toUInt32 &&& Int32.toUInt32 31)).toInt32)) &&& (252645135)).toUInt32 >>> ((nI 8).toUInt32 &&& Int32.toUInt32 31)).toInt32)).toUInt32 >>> ((nI 16).toUInt32 &&& Int32.toUInt32 31)).toInt32)) &&& (nI 63)) rfl ?_
  refine r_top (y := nI (pcb m 6)) ((by decide +kernel : ∀ m, m < 64 → ((((((((nI m) - ((((nI m).toUInt32 >>> ((nI 1).toUInt32 &&& Int32.toUInt32 31)).toInt32) &&& (1431655765))) &&& (858993459)) + (((((nI m) - ((((nI m).toUInt32 >>> ((nI 1).toUInt32 &&& Int32.toUInt32 31)).toInt32) &&& (1431655765))).toUInt32 >>> ((nI 2).toUInt32 &&& Int32.toUInt32 31)).toInt32) &&& (858993459))) + ((((((nI m) - ((((nI m).toUInt32 >>> ((nI 1).toUInt32 &&& Int32.toUInt32 31)).toInt32) &&& (1431655765))) &&& (858993459)) + (((((nI m) - ((((nI m).toUInt32 >>> ((nI 1).toUInt32 &&& Int32.toUInt32 31)).toInt32) &&& (1431655765))).toUInt32 >>> ((nI 2).toUInt32 &&& Int32.toUInt32 31)).toInt32) &&& (858993459))).toUInt32 >>> ((nI 4).toUInt32 &&& Int32.toUInt32 31)).toInt32)) &&& (252645135)) + ((((((((nI m) - ((((nI m).toUInt32 >>> ((nI 1).toUInt32 &&& Int32.toUInt32 31)).toInt32) &&& (1431655765))) &&& (858993459)) + (((((nI m) - ((((nI m).toUInt32 >>> ((nI 1).toUInt32 &&& Int32.toUInt32 31)).toInt32) &&& (1431655765))).toUInt32 >>> ((nI 2).toUInt32 &&& Int32.toUInt32 31)).toInt32) &&& (858993459))) + ((((((nI m) - ((((nI m).toUInt32 >>> ((nI 1).toUInt32 &&& Int32.toUInt32 31)).toInt32) &&& (1431655765))) &&& (858993459)) + (((((nI m) - ((((nI m).toUInt32 >>> ((nI 1).toUInt32 &&& Int32.toUInt32 31)).toInt32) &&& (1431655765))).toUInt32 >>> ((nI 2).toUInt32 &&& Int32.toUInt32 31)).toInt32) &&& (858993459))).toUInt32 >>> ((nI 4).toUInt32 &&& Int32.toUInt32 31)).toInt32)) &&& (252645135)).toUInt32 >>> ((nI 8).toUInt32 &&& Int32.toUInt32 31)).toInt32)) + (((((((((nI m) - ((((nI m).toUInt32 >>> ((nI 1).toUInt32 &&& Int32.toUInt32 31)).toInt32) &&& (1431655765))) &&& (858993459)) + (((((nI m) - ((((nI m).toUInt32 >>> ((nI 1).toUInt32 &&& Int32.toUInt32 31)).toInt32) &&& (1431655765))).toUInt32 >>> ((nI 2).toUInt32 &&& Int32.toUInt32 31)).toInt32) &&& (858993459))) + ((((((nI m) - ((((nI m).toUInt32 >>> ((nI 1).toUInt32 &&& Int32.toUInt32 31)).toInt32) &&& (1431655765))) &&& (858993459)) + (((((nI m) - ((((nI m).toUInt32 >>> ((nI 1).toUInt32 &&& Int32.toUInt32 31)).toInt32) &&& (1431655765))).toUInt32 >>> ((nI 2).toUInt32 &&& Int32.toUInt32 31)).toInt32) &&& (858993459))).toUInt32 >>> ((nI 4).toUInt32 &&& Int32.toUInt32 31)).toInt32)) &&& (252645135)) + ((((((((nI m) - ((((nI m).toUInt32 >>> ((nI 1).toUInt32 &&& Int32.toUInt32 31)).toInt32) &&& (1431655765))) &&& (858993459)) + (((((nI m) - ((((nI m).toUInt32 >>> ((nI 1).toUInt32 &&& Int32.toUInt32 31)).toInt32) &&& (1431655765))).toUInt32 >>> ((nI 2).toUInt32 &&& Int32.toUInt32 31)).toInt32) &&& (858993459))) + ((((((nI m) - ((((nI m).toUInt32 >>> ((nI 1).toUInt32 &&& Int32.toUInt32 31)).toInt32) &&& (1431655765))) &&& (858993459)) + (((((nI m) - ((((nI m).toUInt32 >>> ((nI 1).toUInt32 &&& Int32.toUInt32 31)).toInt32) &&& (1431655765))).toUInt32 >>> ((nI 2).toUInt32 &&& Int32.toUInt32 31)).toInt32) &&& (858993459))).toUInt32 >>> ((nI 4).toUInt32 &&& Int32.toUInt32 31)).toInt32)) &&& (252645135)).toUInt32 >>> ((nI 8).toUInt32 &&& Int32.toUInt32 31)).toInt32)).toUInt32 >>> ((nI 16).toUInt32 &&& Int32.toUInt32 31)).toInt32)) &&& (nI 63) = nI (pcb m 6)) m hm) ?_
  exact hret _ _ _ () rfl (Or.inr ⟨_, rfl, dJ6_bitCount_0f7a4_52, Or.inl rfl⟩)
theorem kJ6_numberOfTrailingZeros_0f7a4_264 : Cond.constant RJ6 264 (65536) ∈ wsJ6_numberOfTrailingZeros_0f7a4 := List.mem_of_getElem? (i := 1) rfl
set_option maxHeartbeats 4000000 in
set_option maxRecDepth 100000 in
theorem c_J6_numberOfTrailingZeros_0f7a4 {g : ww_G} {l : Launch} {m : Nat} (hm : m < 64) (h0m : 0 < m) : CT g l yJ6_numberOfTrailingZeros_0f7a4 wsJ6_numberOfTrailingZeros_0f7a4 (ww_rm 1) [.int (nI m)] ([]) (S := Unit) (fun v u => v = some (.int (nI (ntz m)))) (fun u => []) := by
  refine CT.of cJ6_numberOfTrailingZeros_0f7a4 2 (some .int) RJ6 (by decide +kernel) rfl rfl (Nat.le_of_ble_eq_true rfl) ?_
  intro X hg hl C hret
  subst hg; subst hl
  show RW X 0 0 0 [(0, .int (nI m))] [] []
  obtain ⟨z, ez, hz⟩ : ∃ z, (nI m ^^^ (-1)) &&& (nI m - nI 1) = nI z ∧ ((z = 0 ∧ ntz m = 0) ∨ (z = 1 ∧ ntz m = 1) ∨ (z = 3 ∧ ntz m = 2) ∨ (z = 7 ∧ ntz m = 3) ∨ (z = 15 ∧ ntz m = 4) ∨ (z = 31 ∧ ntz m = 5)) := ⟨2 ^ ntz m - 1, ntz_z m hm h0m, by rcases ntz_c m hm h0m with e | e | e | e | e | e <;> rw [e] <;> decide⟩
  refine r_iload_n C dJ6_numberOfTrailingZeros_0f7a4_0 0 rfl rfl ?_
  refine r_iconst C dJ6_numberOfTrailingZeros_0f7a4_1 (v := (-1)) (by decide) ?_
  refine r_ixor C dJ6_numberOfTrailingZeros_0f7a4_2 (v := (nI m) ^^^ (-1)) rfl ?_
  refine r_iload_n C dJ6_numberOfTrailingZeros_0f7a4_3 0 rfl rfl ?_
  refine r_iconst C dJ6_numberOfTrailingZeros_0f7a4_4 (v := nI 1) (by decide) ?_
  refine r_isub C dJ6_numberOfTrailingZeros_0f7a4_5 (v := (nI m) - (nI 1)) rfl ?_
  refine r_iand C dJ6_numberOfTrailingZeros_0f7a4_6 (v := nI z) ez ?_
  refine r_istore_n C dJ6_numberOfTrailingZeros_0f7a4_7 rfl (by decide) [0] (lv' := [(0, .int (nI z))]) rfl ?_
  refine r_iload_n C dJ6_numberOfTrailingZeros_0f7a4_8 0 rfl rfl ?_
  refine r_if_gt (tgt := 17) C dJ6_numberOfTrailingZeros_0f7a4_9 (by decide) (fun h9 => ?_) (fun h9 => ?_)
  · have h9 : 0 < z := (nI_ltI (a := 0) (by omega) (by omega)).mp h9
    refine r_iconst C dJ6_numberOfTrailingZeros_0f7a4_17 (v := nI 1) (by decide) ?_
    refine r_istore_n C dJ6_numberOfTrailingZeros_0f7a4_18 rfl (by decide) [1, 0] (lv' := [(0, .int (nI z)), (1, .int (nI 1))]) rfl ?_
    refine r_iload_n C dJ6_numberOfTrailingZeros_0f7a4_19 0 rfl rfl ?_
    refine r_ldcw C dJ6_numberOfTrailingZeros_0f7a4_20 kJ6_numberOfTrailingZeros_0f7a4_264 ?_
    refine r_top (y := nI 65536) (by decide) ?_
    refine r_icmp_le (tgt := 34) C dJ6_numberOfTrailingZeros_0f7a4_23 (by decide) (fun h23 => ?_) (fun h23 => ?_)
    · have h23 : z ≤ 65536 := (nI_leI (by omega) (by omega)).mp h23
      refine r_iload_n C dJ6_numberOfTrailingZeros_0f7a4_34 0 rfl rfl ?_
      refine r_sipush C dJ6_numberOfTrailingZeros_0f7a4_35 (v := nI 256) (by decide) ?_
      refine r_icmp_le (tgt := 49) C dJ6_numberOfTrailingZeros_0f7a4_38 (by decide) (fun h38 => ?_) (fun h38 => ?_)
      · have h38 : z ≤ 256 := (nI_leI (by omega) (by omega)).mp h38
        refine r_iload_n C dJ6_numberOfTrailingZeros_0f7a4_49 0 rfl rfl ?_
        refine r_bipush C dJ6_numberOfTrailingZeros_0f7a4_50 (v := nI 16) (by decide) ?_
        refine r_icmp_le (tgt := 62) C dJ6_numberOfTrailingZeros_0f7a4_52 (by decide) (fun h52 => ?_) (fun h52 => ?_)
        · have h52 : z ≤ 16 := (nI_leI (by omega) (by omega)).mp h52
          refine r_iload_n C dJ6_numberOfTrailingZeros_0f7a4_62 0 rfl rfl ?_
          refine r_iconst C dJ6_numberOfTrailingZeros_0f7a4_63 (v := nI 4) (by decide) ?_
          refine r_icmp_le (tgt := 74) C dJ6_numberOfTrailingZeros_0f7a4_64 (by decide) (fun h64 => ?_) (fun h64 => ?_)
          · have h64 : z ≤ 4 := (nI_leI (by omega) (by omega)).mp h64
            refine r_iload_n C dJ6_numberOfTrailingZeros_0f7a4_74 1 rfl rfl ?_
            refine r_iload_n C dJ6_numberOfTrailingZeros_0f7a4_75 0 rfl rfl ?_
            refine r_iconst C dJ6_numberOfTrailingZeros_0f7a4_76 (v := nI 1) (by decide) ?_
            refine r_iushr C dJ6_numberOfTrailingZeros_0f7a4_77 (v := nI (z / 2)) (nz_u1 _ (by omega)) ?_
            refine r_iadd C dJ6_numberOfTrailingZeros_0f7a4_78 (v := nI (1 + (z / 2))) (nI_add _ _) ?_
            refine r_top (y := nI (ntz m)) (congrArg nI (by omega)) ?_
            exact hret _ _ _ () rfl (Or.inr ⟨_, rfl, dJ6_numberOfTrailingZeros_0f7a4_79, Or.inl rfl⟩)
          · have h64 : ¬ (z ≤ 4) := fun e9 => h64 ((nI_leI (by omega) (by omega)).mpr e9)
            refine r_iinc C dJ6_numberOfTrailingZeros_0f7a4_67 1 rfl (v := nI (1 + 2)) (nI_add _ _) (by decide) [1, 0] (lv' := [(0, .int (nI z)), (1, .int (nI (1 + 2)))]) rfl ?_
            refine r_iload_n C dJ6_numberOfTrailingZeros_0f7a4_70 0 rfl rfl ?_
            refine r_iconst C dJ6_numberOfTrailingZeros_0f7a4_71 (v := nI 2) (by decide) ?_
            refine r_iushr C dJ6_numberOfTrailingZeros_0f7a4_72 (v := nI (z / 4)) (nz_u2 _ (by omega)) ?_
            refine r_istore_n C dJ6_numberOfTrailingZeros_0f7a4_73 rfl (by decide) [0, 1] (lv' := [(0, .int (nI (z / 4))), (1, .int (nI (1 + 2)))]) rfl ?_
            refine r_iload_n C dJ6_numberOfTrailingZeros_0f7a4_74 1 rfl rfl ?_
            refine r_iload_n C dJ6_numberOfTrailingZeros_0f7a4_75 0 rfl rfl ?_
            refine r_iconst C dJ6_numberOfTrailingZeros_0f7a4_76 (v := nI 1) (by decide) ?_
            refine r_iushr C dJ6_numberOfTrailingZeros_0f7a4_77 (v := nI ((z / 4) / 2)) (nz_u1 _ (by omega)) ?_
            refine r_iadd C dJ6_numberOfTrailingZeros_0f7a4_78 (v := nI ((1 + 2) + ((z / 4) / 2))) (nI_add _ _) ?_
            refine r_top (y := nI (ntz m)) (congrArg nI (by omega)) ?_
            exact hret _ _ _ () rfl (Or.inr ⟨_, rfl, dJ6_numberOfTrailingZeros_0f7a4_79, Or.inl rfl⟩)
        · have h52 : ¬ (z ≤ 16) := fun e9 => h52 ((nI_leI (by omega) (by omega)).mpr e9)
          refine r_iinc C dJ6_numberOfTrailingZeros_0f7a4_55 1 rfl (v := nI (1 + 4)) (nI_add _ _) (by decide) [1, 0] (lv' := [(0, .int (nI z)), (1, .int (nI (1 + 4)))]) rfl ?_
          refine r_iload_n C dJ6_numberOfTrailingZeros_0f7a4_58 0 rfl rfl ?_
          refine r_iconst C dJ6_numberOfTrailingZeros_0f7a4_59 (v := nI 4) (by decide) ?_
          refine r_iushr C dJ6_numberOfTrailingZeros_0f7a4_60 (v := nI (z / 16)) (nz_u4 _ (by omega)) ?_
          refine r_istore_n C dJ6_numberOfTrailingZeros_0f7a4_61 rfl (by decide) [0, 1] (lv' := [(0, .int (nI (z / 16))), (1, .int (nI (1 + 4)))]) rfl ?_
          refine r_iload_n C dJ6_numberOfTrailingZeros_0f7a4_62 0 rfl rfl ?_
          refine r_iconst C dJ6_numberOfTrailingZeros_0f7a4_63 (v := nI 4) (by decide) ?_
          refine r_icmp_le (tgt := 74) C dJ6_numberOfTrailingZeros_0f7a4_64 (by decide) (fun h64 => ?_) (fun h64 => ?_)
          · have h64 : (z / 16) ≤ 4 := (nI_leI (by omega) (by omega)).mp h64
            refine r_iload_n C dJ6_numberOfTrailingZeros_0f7a4_74 1 rfl rfl ?_
            refine r_iload_n C dJ6_numberOfTrailingZeros_0f7a4_75 0 rfl rfl ?_
            refine r_iconst C dJ6_numberOfTrailingZeros_0f7a4_76 (v := nI 1) (by decide) ?_
            refine r_iushr C dJ6_numberOfTrailingZeros_0f7a4_77 (v := nI ((z / 16) / 2)) (nz_u1 _ (by omega)) ?_
            refine r_iadd C dJ6_numberOfTrailingZeros_0f7a4_78 (v := nI ((1 + 4) + ((z / 16) / 2))) (nI_add _ _) ?_
            refine r_top (y := nI (ntz m)) (congrArg nI (by omega)) ?_
            exact hret _ _ _ () rfl (Or.inr ⟨_, rfl, dJ6_numberOfTrailingZeros_0f7a4_79, Or.inl rfl⟩)
          · have h64 : ¬ ((z / 16) ≤ 4) := fun e9 => h64 ((nI_leI (by omega) (by omega)).mpr e9)
            refine r_iinc C dJ6_numberOfTrailingZeros_0f7a4_67 1 rfl (v := nI ((1 + 4) + 2)) (nI_add _ _) (by decide) [1, 0] (lv' := [(0, .int (nI (z / 16))), (1, .int (nI ((1 + 4) + 2)))]) rfl ?_
            refine r_iload_n C dJ6_numberOfTrailingZeros_0f7a4_70 0 rfl rfl ?_
            refine r_iconst C dJ6_numberOfTrailingZeros_0f7a4_71 (v := nI 2) (by decide) ?_
            refine r_iushr C dJ6_numberOfTrailingZeros_0f7a4_72 (v := nI ((z / 16) / 4)) (nz_u2 _ (by omega)) ?_
            refine r_istore_n C dJ6_numberOfTrailingZeros_0f7a4_73 rfl (by decide) [0, 1] (lv' := [(0, .int (nI ((z / 16) / 4))), (1, .int (nI ((1 + 4) + 2)))]) rfl ?_
            refine r_iload_n C dJ6_numberOfTrailingZeros_0f7a4_74 1 rfl rfl ?_
            refine r_iload_n C dJ6_numberOfTrailingZeros_0f7a4_75 0 rfl rfl ?_
            refine r_iconst C dJ6_numberOfTrailingZeros_0f7a4_76 (v := nI 1) (by decide) ?_
            refine r_iushr C dJ6_numberOfTrailingZeros_0f7a4_77 (v := nI (((z / 16) / 4) / 2)) (nz_u1 _ (by omega)) ?_
            refine r_iadd C dJ6_numberOfTrailingZeros_0f7a4_78 (v := nI (((1 + 4) + 2) + (((z / 16) / 4) / 2))) (nI_add _ _) ?_
            refine r_top (y := nI (ntz m)) (congrArg nI (by omega)) ?_
            exact hret _ _ _ () rfl (Or.inr ⟨_, rfl, dJ6_numberOfTrailingZeros_0f7a4_79, Or.inl rfl⟩)
      · have h38 : ¬ (z ≤ 256) := fun e9 => h38 ((nI_leI (by omega) (by omega)).mpr e9)
        exact absurd h38 (by omega)
    · have h23 : ¬ (z ≤ 65536) := fun e9 => h23 ((nI_leI (by omega) (by omega)).mpr e9)
      exact absurd h23 (by omega)
  · have h9 : ¬ (0 < z) := fun e9 => h9 ((nI_ltI (a := 0) (by omega) (by omega)).mpr e9)
    refine r_iload_n C dJ6_numberOfTrailingZeros_0f7a4_12 0 rfl rfl ?_
    refine r_bipush C dJ6_numberOfTrailingZeros_0f7a4_13 (v := nI 32) (by decide) ?_
    refine r_iand C dJ6_numberOfTrailingZeros_0f7a4_15 (v := nI 0) (by rcases hz with ⟨rfl, _⟩ | ⟨rfl, _⟩ | ⟨rfl, _⟩ | ⟨rfl, _⟩ | ⟨rfl, _⟩ | ⟨rfl, _⟩ <;> rfl) ?_
    refine r_top (y := nI (ntz m)) (congrArg nI (by omega)) ?_
    exact hret _ _ _ () rfl (Or.inr ⟨_, rfl, dJ6_numberOfTrailingZeros_0f7a4_16, Or.inl rfl⟩)
theorem fX2_upperBits_7 : Cond.fieldLink RX2 7 (TX2 0).1 (TX2 0).2.1 (TX2 0).2.2.1 ∈ wsX2_upperBits := List.mem_of_getElem? (i := 1) rfl
theorem iX2_upperBits_X2 : ∀ w ∈ wsX20, w ∈ wsX2_upperBits := by decide +kernel
set_option maxHeartbeats 4000000 in
set_option maxRecDepth 100000 in
theorem c_X2_upperBits {g : ww_G} {l : Launch} {aH : Nat} {x : Int64}  : CT g l yX2_upperBits wsX2_upperBits (ww_rm 1) [.ref aH] ([(aH, .inr (3, [.long x]))]) (S := Unit) (fun v u => v = some (.int (nI (hb x)))) (fun u => [(aH, .inr (3, [.long x]))]) := by
  refine CT.of cX2_upperBits 1 (some .int) RX2 (by decide +kernel) rfl rfl (Nat.le_of_ble_eq_true rfl) ?_
  intro X hg hl C hret
  subst hg; subst hl
  show RW X 0 0 0 [(0, .ref aH)] [] [(aH, .inr (3, [.long x]))]
  refine r_aload_n C dX2_upperBits_0 0 rfl rfl ?_
  refine r_get C dX2_upperBits_1 iX2_upperBits_X2 0 fX2_upperBits_7 0 rfl rfl (by decide) rfl ?_
  refine r_bipush C dX2_upperBits_4 (v := nI 33) (by decide) ?_
  refine r_lushr C dX2_upperBits_6 (v := (x.toUInt64 >>> ((nI 33).toInt64.toUInt64 &&& Int64.toUInt64 63)).toInt64) rfl ?_
  refine r_l2i C dX2_upperBits_7 (v := nI (hb x)) (hb_i x) ?_
  exact hret _ _ _ () rfl (Or.inr ⟨_, rfl, dX2_upperBits_8, Or.inl rfl⟩)
theorem fX2_startAt_7 : Cond.fieldLink RX2 7 (TX2 0).1 (TX2 0).2.1 (TX2 0).2.2.1 ∈ wsX2_startAt := List.mem_of_getElem? (i := 1) rfl
theorem iX2_startAt_X2 : ∀ w ∈ wsX20, w ∈ wsX2_startAt := by decide +kernel
set_option maxHeartbeats 4000000 in
set_option maxRecDepth 100000 in
theorem c_X2_startAt {g : ww_G} {l : Launch} {aH : Nat} {x : Int64} {y : Int64}  : CT g l yX2_startAt wsX2_startAt (ww_rm 1) [.ref aH, .long y] ([(aH, .inr (3, [.long x]))]) (S := Unit) (fun v u => v = none) (fun u => [(aH, .inr (3, [.long y]))]) := by
  refine CT.of cX2_startAt 3 none RX2 (by decide +kernel) rfl rfl (Nat.le_of_ble_eq_true rfl) ?_
  intro X hg hl C hret
  subst hg; subst hl
  show RW X 0 0 0 [(0, .ref aH), (1, .long y)] [] [(aH, .inr (3, [.long x]))]
  refine r_aload_n C dX2_startAt_0 0 rfl rfl ?_
  refine r_lload_n C dX2_startAt_1 1 rfl rfl ?_
  refine r_put C dX2_startAt_2 iX2_startAt_X2 tyX2 tyX2_ok nmX2 0 fX2_startAt_7 0 rfl rfl (by decide) rfl rfl rfl rfl (Nat.le_of_ble_eq_true rfl) (ws' := [(aH, .inr (3, [.long y]))]) rfl ?_
  exact hret _ _ _ () rfl (Or.inl ⟨rfl, rfl, dX2_startAt_5⟩)
theorem kX2_below_13 : Cond.constantLong RX2 13 (6364136223846793005) ∈ wsX2_below := List.mem_of_getElem? (i := 1) rfl
theorem fX2_below_7 : Cond.fieldLink RX2 7 (TX2 0).1 (TX2 0).2.1 (TX2 0).2.2.1 ∈ wsX2_below := List.mem_of_getElem? (i := 2) rfl
theorem iX2_below_X2 : ∀ w ∈ wsX20, w ∈ wsX2_below := by decide +kernel
theorem kX2_below_15 : Cond.constantLong RX2 15 (1442695040888963407) ∈ wsX2_below := List.mem_of_getElem? (i := 3) rfl
set_option maxHeartbeats 4000000 in
set_option maxRecDepth 100000 in
theorem c_X2_below {g : ww_G} {l : Launch} {aH : Nat} {x : Int64} {k : Nat} (hk : 1 ≤ k) (hk2 : k < 2147483648) : CT g l yX2_below wsX2_below (ww_rm 2) [.ref aH, .int (nI k)] ([(aH, .inr (3, [.long x]))]) (S := Unit) (fun v u => v = some (.int (nI (hb (nx x) % k)))) (fun u => [(aH, .inr (3, [.long (nx x)]))]) := by
  refine CT.of cX2_below 2 (some .int) RX2 (by decide +kernel) rfl rfl (Nat.le_of_ble_eq_true rfl) ?_
  intro X hg hl C hret
  subst hg; subst hl
  show RW X 0 0 0 [(0, .ref aH), (1, .int (nI k))] [] [(aH, .inr (3, [.long x]))]
  refine r_aload_n C dX2_below_0 0 rfl rfl ?_
  refine r_ldc2 C dX2_below_1 kX2_below_13 ?_
  refine r_aload_n C dX2_below_4 0 rfl rfl ?_
  refine r_get C dX2_below_5 iX2_below_X2 0 fX2_below_7 0 rfl rfl (by decide) rfl ?_
  refine r_lmul C dX2_below_8 (v := 6364136223846793005 * x) rfl ?_
  refine r_ldc2 C dX2_below_9 kX2_below_15 ?_
  refine r_ladd C dX2_below_12 (v := nx x) rfl ?_
  refine r_put C dX2_below_13 iX2_below_X2 tyX2 tyX2_ok nmX2 0 fX2_below_7 0 rfl rfl (by decide) rfl rfl rfl rfl (Nat.le_of_ble_eq_true rfl) (ws' := [(aH, .inr (3, [.long (nx x)]))]) rfl ?_
  refine r_iload_n C dX2_below_16 1 rfl rfl ?_
  refine r_iconst C dX2_below_17 (v := nI 1) (by decide) ?_
  refine r_icmp_ge (tgt := 25) C dX2_below_18 (by decide) (fun h18 => ?_) (fun h18 => ?_)
  · have h18 : 1 ≤ k := (nI_leI (by omega) (by omega)).mp h18
    refine r_aload_n C dX2_below_25 0 rfl rfl ?_
    refine r_callV0 (n := 0) (ws' := fun u => [(aH, .inr (3, [.long (nx x)]))]) C dX2_below_26 (c_X2_upperBits (g := X.1) (l := X.2.2.1) (aH := aH) (x := nx x) ) gX2_below_X2_upperBits rfl (by decide +kernel) rfl ⟨Nat.le_of_ble_eq_true rfl, Nat.le_of_ble_eq_true rfl⟩ ⟨rfl, rfl⟩ ⟨Nat.zero_le _, Nat.zero_le _⟩ (rest := []) rfl (by decide) 0 rfl rfl [0] (by decide) rfl (fun u => rfl) (fun u => rfl) (fun v u hp => ?_)
    obtain rfl := hp
    show RW X 0 0 29 [(0, .ref aH), (1, .int (nI k))] [.int (nI (hb (nx x)))] [(aH, .inr (3, [.long (nx x)]))]
    refine r_iload_n C dX2_below_29 1 rfl rfl ?_
    refine r_irem C dX2_below_30 (nI_ne0 (by omega) (by omega)) (v := nI (hb (nx x) % k)) (pk_rem (hb_lt _) (by omega) (by omega)) ?_
    exact hret _ _ _ () rfl (Or.inr ⟨_, rfl, dX2_below_31, Or.inl rfl⟩)
  · have h18 : ¬ (1 ≤ k) := fun e9 => h18 ((nI_leI (by omega) (by omega)).mpr e9)
    exact absurd hk h18
