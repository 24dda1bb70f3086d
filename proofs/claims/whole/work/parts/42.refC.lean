theorem fil_le (N : Nat) (b : Nat → Option Nat) : fil N b ≤ N := cn_le N
theorem kn_lt {n N : Nat} {A : Nat → Nat} {kn : Nat → Option Nat} (hA : fulA n N A) (hs : subA N kn A) (hz : ∀ c, N ≤ c → kn c = none) : ∀ c v, kn c = some v → v < n := fun c v e => by
  by_cases q : c < N
  · rw [hs c v q e]; exact hA.1 c q
  · rw [hz c (by omega)] at e; cases e
theorem inv_cut {n N : Nat} {A : Nat → Nat} {gi : Nat → Option Nat} (hs : subA N gi A) : invK n N A gi (fun c => if c < N then gi c else none) := by
  refine ⟨fun c v hc e => ?_, fun c hc q => ?_, fun c hc q b _ hle _ => ?_⟩
  · have e : (if c < N then gi c else none) = some v := e
    rw [if_pos hc] at e; exact hs c v hc e
  · show (if c < N then gi c else none) ≠ none
    rw [if_pos hc]; exact q
  · have q : (if c < N then gi c else none) ≠ none := q
    rw [if_pos hc] at q; exact hle c hc q
/-- the cell may have v, and a single tells it -/
def sgP (n N : Nat) (kn : Nat → Option Nat) (c v : Nat) : Prop := (kn c = none ∧ mayP n N kn c v) ∧ ((∀ u, u < n → u = v ∨ ¬ (kn c = none ∧ mayP n N kn c u)) ∨ ∃ k, k < 3 ∧ ∀ d, d < N → d = c ∨ ¬ uk n k d = uk n k c ∨ ¬ (kn d = none ∧ mayP n N kn d v))
theorem sing_A {n N c v : Nat} {A : Nat → Nat} {kn : Nat → Option Nat} (hn : (n = 4 ∧ N = 16) ∨ (n = 6 ∧ N = 36)) (hA : fulA n N A) (hs : subA N kn A) (hc : c < N) (h0 : kn c = none) (hm : mayP n N kn c v) (h : (∀ u, u < n → u = v ∨ ¬ (kn c = none ∧ mayP n N kn c u)) ∨ ∃ k, k < 3 ∧ ∀ d, d < N → d = c ∨ ¬ uk n k d = uk n k c ∨ ¬ (kn d = none ∧ mayP n N kn d v)) : A c = v ∧ appl n N A kn c := by
  rcases h with h | ⟨k, hk, h⟩
  · have hAc : A c = v := (h (A c) (hA.1 c hc)).elim id (fun w => absurd ⟨h0, may_A hA hs hc h0⟩ w)
    exact ⟨hAc, hc, h0, Or.inl (fun u q => by rw [hAc]; exact (h u q.1).elim id (fun w => absurd ⟨h0, q⟩ w))⟩
  · obtain ⟨hu, j, hj, hjc⟩ := unC_ok hn hk hc
    obtain ⟨-, u1, u2, u3, u4⟩ := isUn_F hn hk hu
    obtain ⟨i, hi, hAi⟩ := surj n (fun i => A (unF n (k * n + uk n k c) i)) (fun i hi => hA.1 _ (u1 i hi)) (fun i i2 hi hi2 e => Classical.byContradiction (fun w => hA.2 _ _ (u1 i hi) (u1 i2 hi2) (fun q => w (u2 i i2 hi hi2 q)) (uk_tog hk (u3 i i2 hi hi2)) e)) v hm.1
    have hue : uk n k (unF n (k * n + uk n k c) i) = uk n k c := by
      have := u3 i j hi hj
      rw [hjc] at this
      exact this
    have he0 : kn (unF n (k * n + uk n k c) i) = none := by
      cases e : kn (unF n (k * n + uk n k c) i) with
      | none => rfl
      | some w =>
        have h1 := hs _ w (u1 i hi) e
        have h2 : w = v := h1.trans hAi
        exact absurd (by rw [e, h2]) (hm.2 _ (u1 i hi) (uk_tog hk hue.symm))
    have hme := may_A hA hs (u1 i hi) he0
    rw [show A (unF n (k * n + uk n k c) i) = v from hAi] at hme
    have hec : unF n (k * n + uk n k c) i = c := (h _ (u1 i hi)).elim id (fun w => w.elim (fun r => absurd hue r) (fun r => absurd ⟨he0, hme⟩ r))
    have hAc : A c = v := by rw [← hec]; exact hAi
    refine ⟨hAc, hc, h0, Or.inr ⟨k, hk, fun d hd hud h0d hmd => ?_⟩⟩
    rw [hAc] at hmd
    exact (h d hd).elim id (fun w => w.elim (fun r => absurd hud r) (fun r => absurd ⟨h0d, hmd⟩ r))
theorem cl_end {n N : Nat} {A : Nat → Nat} {kn : Nat → Option Nat} (hn : (n = 4 ∧ N = 16) ∨ (n = 6 ∧ N = 36)) (hA : fulA n N A) (hs : subA N kn A) (h : ∀ c, c < N → ∀ v, v < n → ¬ sgP n N kn c v) : closedB n N A kn := by
  rintro c ⟨hc, h0, q⟩
  refine h c hc (A c) (hA.1 c hc) ⟨⟨h0, may_A hA hs hc h0⟩, ?_⟩
  rcases q with q | ⟨k, hk, q⟩
  · exact Or.inl (fun u hu => by
      by_cases e : u = A c
      · exact Or.inl e
      · exact Or.inr (fun w => e (q u w.2)))
  · exact Or.inr ⟨k, hk, fun d hd => by
      by_cases e : d = c
      · exact Or.inl e
      · by_cases e2 : uk n k d = uk n k c
        · exact Or.inr (Or.inr (fun w => e (q d hd e2 w.1 w.2)))
        · exact Or.inr (Or.inl e2)⟩
theorem m2_lt {N : Nat} {m2 Q : Prop} {k1 k2 : Nat → Option Nat} (h0 : ¬ m2 → k2 = k1 ∧ Q) (h1 : m2 → fil N k1 < fil N k2) : fil N k1 < fil N k2 + 1 := by
  by_cases q : m2
  · have := h1 q; omega
  · rw [(h0 q).1]; omega
theorem cl_me {N : Nat} {m2 Q : Prop} {k1 k2 : Nat → Option Nat} (h1 : m2 → fil N k1 < fil N k2) (h0 : ¬ m2 → k2 = k1 ∧ Q) : (dI m2 = 1 ∧ fil N k1 < fil N k2) ∨ (dI m2 = 0 ∧ fil N k2 = fil N k1) := by
  by_cases q : m2
  · exact Or.inl ⟨dI_t q, h1 q⟩
  · exact Or.inr ⟨dI_f q, by rw [(h0 q).1]⟩
theorem fX11_countLeft_36 : Cond.fieldLink RX11 36 (TX11 17).1 (TX11 17).2.1 (TX11 17).2.2.1 ∈ wsX11_countLeft := List.mem_of_getElem? (i := 1) rfl
theorem iX11_countLeft_X11 : ∀ w ∈ wsX110, w ∈ wsX11_countLeft := by decide +kernel
theorem fX11_countLeft_45 : Cond.fieldLink RX11 45 (TX11 1).1 (TX11 1).2.1 (TX11 1).2.2.1 ∈ wsX11_countLeft := List.mem_of_getElem? (i := 3) rfl
theorem fX11_countLeft_27 : Cond.fieldLink RX11 27 (TX11 14).1 (TX11 14).2.1 (TX11 14).2.2.1 ∈ wsX11_countLeft := List.mem_of_getElem? (i := 2) rfl
set_option maxHeartbeats 4000000 in
set_option maxRecDepth 100000 in
theorem c_X11_countLeft {g : ww_G} {l : Launch} {rM : Nat} {rTh : Nat} {rTe : Nat} {rPu : Nat} {rWh : Nat} {rGi : Nat} {rDr : Nat} {rTr : Nat} {rKn : Nat} {rRo : Nat} {rTx : Nat} {tn : Nat} {n : Nat} {N : Nat} {sy : Nat} {ez : Nat} {la : Int32} {ma : Int32} {x : Int64} {md : Prop} {rws : Nat} {sz : Nat} {A : Nat → Nat} {gi : Nat → Option Nat} {kn : Nat → Option Nat} (hn : (n = 4 ∧ N = 16) ∨ (n = 6 ∧ N = 36)) (hA : fulA n N A) (hsub : subA N gi A) : CT g l yX11_countLeft wsX11_countLeft (ww_rm 5) [.ref rM] ([(rM, .inr (12, [.int (nI tn), .int (nI n), .int (nI (n / 2)), .int (nI 2), .int (nI sy), .ref rTh, .int (nI ez), .int la, .int ma, .long x, .ref rTe, .int (bz md), .ref rPu, .ref rWh, .ref rGi, .ref rDr, .ref rTr, .ref rKn, .ref rRo, .int (nI rws), .int (nI sz), .ref rTx])), (rGi, .inl (g.2.1, 36, .inl (eb gi))), (rKn, .inl (g.2.1, 36, .inl (eb kn)))]) (S := (Nat → Option Nat)) (fun vv9 u => vv9 = some (.int (nI (leftN n N A gi)))) (fun u => [(rM, .inr (12, [.int (nI tn), .int (nI n), .int (nI (n / 2)), .int (nI 2), .int (nI sy), .ref rTh, .int (nI ez), .int la, .int ma, .long x, .ref rTe, .int (bz md), .ref rPu, .ref rWh, .ref rGi, .ref rDr, .ref rTr, .ref rKn, .ref rRo, .int (nI rws), .int (nI sz), .ref rTx])), (rGi, .inl (g.2.1, 36, .inl (eb gi))), (rKn, .inl (g.2.1, 36, .inl (eb u)))]) := by
  refine CT.of cX11_countLeft 4 (some .int) RX11 (by decide +kernel) rfl rfl (Nat.le_of_ble_eq_true rfl) ?_
  intro X hg hl C hret
  subst hg; subst hl
  show RW X 0 0 0 [(0, .ref rM)] [] [(rM, .inr (12, [.int (nI tn), .int (nI n), .int (nI (n / 2)), .int (nI 2), .int (nI sy), .ref rTh, .int (nI ez), .int la, .int ma, .long x, .ref rTe, .int (bz md), .ref rPu, .ref rWh, .ref rGi, .ref rDr, .ref rTr, .ref rKn, .ref rRo, .int (nI rws), .int (nI sz), .ref rTx])), (rGi, .inl (X.1.2.1, 36, .inl (eb gi))), (rKn, .inl (X.1.2.1, 36, .inl (eb kn)))]
  refine r_iconst C dX11_countLeft_0 (v := nI 0) (by decide) ?_
  refine r_istore_n C dX11_countLeft_1 rfl (by decide) [1, 0] (lv' := [(0, .ref rM), (1, .int (nI 0))]) rfl ?_
  have L2 : ∀ (d2 : Nat) (i : Nat) (k1 : Nat → Option Nat), (36 - i) < d2 → (i ≤ 36) → (∀ c, c < i → k1 c = if c < N then gi c else none) → RW X 0 0 2 [(0, .ref rM), (1, .int (nI i))] [] [(rM, .inr (12, [.int (nI tn), .int (nI n), .int (nI (n / 2)), .int (nI 2), .int (nI sy), .ref rTh, .int (nI ez), .int la, .int ma, .long x, .ref rTe, .int (bz md), .ref rPu, .ref rWh, .ref rGi, .ref rDr, .ref rTr, .ref rKn, .ref rRo, .int (nI rws), .int (nI sz), .ref rTx])), (rGi, .inl (X.1.2.1, 36, .inl (eb gi))), (rKn, .inl (X.1.2.1, 36, .inl (eb k1)))] := by
    intro d2
    induction d2 with
    | zero => intro i k1 hd2; exact absurd hd2 (Nat.not_lt_zero _)
    | succ d2 ih2 =>
      intro i k1 hd2 hi hk1
      refine r_iload_n C dX11_countLeft_2 1 rfl rfl ?_
      refine r_bipush C dX11_countLeft_3 (v := nI 36) (by decide) ?_
      refine r_icmp_ge (tgt := 38) C dX11_countLeft_5 (by decide) (fun h5 => ?_) (fun h5 => ?_)
      · have h5 : 36 ≤ i := (nI_leI (by omega) (by omega)).mp h5
        refine r_iconst C dX11_countLeft_38 (v := bz True) (by rw [bz_t trivial]; decide) ?_
        refine r_istore_n C dX11_countLeft_39 rfl (by decide) [1, 0] (lv' := [(0, .ref rM), (1, .int (bz True))]) rfl ?_
        have L40 : ∀ (d40 : Nat) (mo : Prop) (k1 : Nat → Option Nat), (N - fil N k1 + dI mo) < d40 → (invK n N A gi k1) → (∀ c, N ≤ c → k1 c = none) → (¬ mo → closedB n N A k1) → RW X 0 0 40 [(0, .ref rM), (1, .int (bz mo))] [] [(rM, .inr (12, [.int (nI tn), .int (nI n), .int (nI (n / 2)), .int (nI 2), .int (nI sy), .ref rTh, .int (nI ez), .int la, .int ma, .long x, .ref rTe, .int (bz md), .ref rPu, .ref rWh, .ref rGi, .ref rDr, .ref rTr, .ref rKn, .ref rRo, .int (nI rws), .int (nI sz), .ref rTx])), (rGi, .inl (X.1.2.1, 36, .inl (eb gi))), (rKn, .inl (X.1.2.1, 36, .inl (eb k1)))] := by
          intro d40
          induction d40 with
          | zero => intro mo k1 hd40; exact absurd hd40 (Nat.not_lt_zero _)
          | succ d40 ih40 =>
            intro mo k1 hd40 hI1 hz1 hmo
            refine r_iload_n C dX11_countLeft_40 1 rfl rfl ?_
            refine r_if_eq (tgt := 111) C dX11_countLeft_41 (by decide) (fun h41 => ?_) (fun h41 => ?_)
            · have h41 : ¬ (mo) := bz_0.mp h41
              refine r_iconst C dX11_countLeft_111 (v := nI 0) (by decide) ?_
              refine r_istore_n C dX11_countLeft_112 rfl (by decide) [1, 2, 0] (lv' := [(0, .ref rM), (1, .int (bz mo)), (2, .int (nI 0))]) rfl ?_
              refine r_iconst C dX11_countLeft_113 (v := nI 0) (by decide) ?_
              refine r_istore_n C dX11_countLeft_114 rfl (by decide) [1, 2, 3, 0] (lv' := [(0, .ref rM), (1, .int (bz mo)), (2, .int (nI 0)), (3, .int (nI 0))]) rfl ?_
              have L115 : ∀ (d115 : Nat) (k : Nat) (d : Nat), (N - d) < d115 → (d ≤ N) → (k = cn (fun e => k1 e = none) d) → RW X 0 0 115 [(0, .ref rM), (2, .int (nI k)), (3, .int (nI d))] [] [(rM, .inr (12, [.int (nI tn), .int (nI n), .int (nI (n / 2)), .int (nI 2), .int (nI sy), .ref rTh, .int (nI ez), .int la, .int ma, .long x, .ref rTe, .int (bz md), .ref rPu, .ref rWh, .ref rGi, .ref rDr, .ref rTr, .ref rKn, .ref rRo, .int (nI rws), .int (nI sz), .ref rTx])), (rGi, .inl (X.1.2.1, 36, .inl (eb gi))), (rKn, .inl (X.1.2.1, 36, .inl (eb k1)))] := by
                intro d115
                induction d115 with
                | zero => intro k d hd115; exact absurd hd115 (Nat.not_lt_zero _)
                | succ d115 ih115 =>
                  intro k d hd115 hd hk
                  refine r_iload_n C dX11_countLeft_115 2 rfl rfl ?_
                  refine r_aload_n C dX11_countLeft_116 0 rfl rfl ?_
                  refine r_callV0 (n := 0) (ws' := fun (u : Unit) => [(rM, .inr (12, [.int (nI tn), .int (nI n), .int (nI (n / 2)), .int (nI 2), .int (nI sy), .ref rTh, .int (nI ez), .int la, .int ma, .long x, .ref rTe, .int (bz md), .ref rPu, .ref rWh, .ref rGi, .ref rDr, .ref rTr, .ref rKn, .ref rRo, .int (nI rws), .int (nI sz), .ref rTx])), (rGi, .inl (X.1.2.1, 36, .inl (eb gi))), (rKn, .inl (X.1.2.1, 36, .inl (eb k1)))]) C dX11_countLeft_117 (c_X11_cells (g := X.1) (l := X.2.2.1) (rM := rM) (rTh := rTh) (rTe := rTe) (rPu := rPu) (rWh := rWh) (rGi := rGi) (rDr := rDr) (rTr := rTr) (rKn := rKn) (rRo := rRo) (rTx := rTx) (tn := tn) (n := n) (N := N) (sy := sy) (ez := ez) (la := la) (ma := ma) (x := x) (md := md) (rws := rws) (sz := sz) (hn := (by first | assumption | omega))) gX11_countLeft_X11_cells rfl (by decide +kernel) rfl ⟨Nat.le_of_ble_eq_true rfl, Nat.le_of_ble_eq_true rfl⟩ ⟨rfl, rfl⟩ ⟨Nat.zero_le _, Nat.zero_le _⟩ (rest := [.int (nI d)]) rfl (Nat.le_of_ble_eq_true rfl) 0 rfl rfl [0] (by decide) rfl (fun u => Eq.trans (b := [rM]) rfl rfl) (fun u => rfl) (fun v u hp => ?_)
                  obtain rfl := hp
                  show RW X 0 0 120 [(0, .ref rM), (2, .int (nI k)), (3, .int (nI d))] [.int (nI N), .int (nI d)] [(rM, .inr (12, [.int (nI tn), .int (nI n), .int (nI (n / 2)), .int (nI 2), .int (nI sy), .ref rTh, .int (nI ez), .int la, .int ma, .long x, .ref rTe, .int (bz md), .ref rPu, .ref rWh, .ref rGi, .ref rDr, .ref rTr, .ref rKn, .ref rRo, .int (nI rws), .int (nI sz), .ref rTx])), (rGi, .inl (X.1.2.1, 36, .inl (eb gi))), (rKn, .inl (X.1.2.1, 36, .inl (eb k1)))]
                  refine r_icmp_ge (tgt := 146) C dX11_countLeft_120 (by decide) (fun h120 => ?_) (fun h120 => ?_)
                  · have h120 : N ≤ d := (nI_leI (by omega) (by omega)).mp h120
                    refine r_iload_n C dX11_countLeft_146 1 rfl rfl ?_
                    refine r_top (y := nI (leftN n N A gi)) (congrArg nI (by rw [hk, show d = N by omega]; exact left_end hI1 (hmo h41))) ?_
                    exact hret _ _ _ (k1) rfl (Or.inr ⟨_, rfl, dX11_countLeft_147, Or.inl rfl⟩)
                  · have h120 : ¬ (N ≤ d) := fun e9 => h120 ((nI_leI (by omega) (by omega)).mpr e9)
                    refine r_iload_n C dX11_countLeft_123 1 rfl rfl ?_
                    refine r_aload_n C dX11_countLeft_124 0 rfl rfl ?_
                    refine r_get C dX11_countLeft_125 iX11_countLeft_X11 17 fX11_countLeft_36 0 rfl rfl (by decide) rfl ?_
                    refine r_iload_n C dX11_countLeft_128 2 rfl rfl ?_
                    refine r_iald C dX11_countLeft_129 2 rfl (by omega) (by omega) ?_
                    refine r_if_ge (tgt := 137) C dX11_countLeft_130 (by decide) (fun h130 => ?_) (fun h130 => ?_)
                    · refine r_iconst C dX11_countLeft_137 (v := nI 0) (by decide) ?_
                      refine r_top (y := nI (dI (k1 d = none))) (by rw [dI_f (fun w => absurd h130 (by show ¬ 0 ≤ eo (k1 d); rw [w]; decide))]) ?_
                      refine r_iadd C dX11_countLeft_138 (v := nI (k + (dI (k1 d = none)))) (nI_add _ _) ?_
                      refine r_istore_n C dX11_countLeft_139 rfl (by decide) [1, 0, 2] (lv' := [(0, .ref rM), (2, .int (nI (k + (dI (k1 d = none))))), (3, .int (nI d))]) rfl ?_
                      refine r_iinc C dX11_countLeft_140 2 rfl (v := nI (d + 1)) (nI_add _ _) (by decide) [1, 2, 0] (lv' := [(0, .ref rM), (2, .int (nI (k + (dI (k1 d = none))))), (3, .int (nI (d + 1)))]) rfl ?_
                      refine r_goto (tgt := 115) C dX11_countLeft_143 (by decide) ?_
                      exact ih115 (k + dI (k1 d = none)) (d + 1) (by omega) (by omega) (by rw [hk]; rfl)
                    · refine r_iconst C dX11_countLeft_133 (v := nI 1) (by decide) ?_
                      refine r_goto (tgt := 138) C dX11_countLeft_134 (by decide) ?_
                      refine r_top (y := nI (dI (k1 d = none))) (by rw [dI_t (subA_none hA hI1.1 hn (by omega) (Int32.not_le.mp h130))]) ?_
                      refine r_iadd C dX11_countLeft_138 (v := nI (k + (dI (k1 d = none)))) (nI_add _ _) ?_
                      refine r_istore_n C dX11_countLeft_139 rfl (by decide) [1, 0, 2] (lv' := [(0, .ref rM), (2, .int (nI (k + (dI (k1 d = none))))), (3, .int (nI d))]) rfl ?_
                      refine r_iinc C dX11_countLeft_140 2 rfl (v := nI (d + 1)) (nI_add _ _) (by decide) [1, 2, 0] (lv' := [(0, .ref rM), (2, .int (nI (k + (dI (k1 d = none))))), (3, .int (nI (d + 1)))]) rfl ?_
                      refine r_goto (tgt := 115) C dX11_countLeft_143 (by decide) ?_
                      exact ih115 (k + dI (k1 d = none)) (d + 1) (by omega) (by omega) (by rw [hk]; rfl)
              refine r_lv [0, 2, 3] (lv' := [(0, .ref rM), (2, .int (nI 0)), (3, .int (nI 0))]) rfl ?_
              exact L115 ((N - 0) + 1) 0 0 (Nat.lt_succ_self _) (Nat.zero_le _) rfl
            · have h41 : mo := bz_n0.mp h41
              refine r_iconst C dX11_countLeft_44 (v := bz False) (by rw [bz_f id]; decide) ?_
              refine r_istore_n C dX11_countLeft_45 rfl (by decide) [1, 0] (lv' := [(0, .ref rM), (1, .int (bz False))]) rfl ?_
              refine r_iconst C dX11_countLeft_46 (v := nI 0) (by decide) ?_
              refine r_istore_n C dX11_countLeft_47 rfl (by decide) [1, 2, 0] (lv' := [(0, .ref rM), (1, .int (bz False)), (2, .int (nI 0))]) rfl ?_
              have L48 : ∀ (d48 : Nat) (c : Nat) (m2 : Prop) (k2 : Nat → Option Nat), (N - c) < d48 → (c ≤ N) → (invK n N A gi k2) → (∀ c, N ≤ c → k2 c = none) → (m2 → fil N k1 < fil N k2) → (¬ m2 → k2 = k1 ∧ ∀ d, d < c → ∀ v, v < n → ¬ sgP n N k1 d v) → RW X 0 0 48 [(0, .ref rM), (1, .int (bz m2)), (2, .int (nI c))] [] [(rM, .inr (12, [.int (nI tn), .int (nI n), .int (nI (n / 2)), .int (nI 2), .int (nI sy), .ref rTh, .int (nI ez), .int la, .int ma, .long x, .ref rTe, .int (bz md), .ref rPu, .ref rWh, .ref rGi, .ref rDr, .ref rTr, .ref rKn, .ref rRo, .int (nI rws), .int (nI sz), .ref rTx])), (rGi, .inl (X.1.2.1, 36, .inl (eb gi))), (rKn, .inl (X.1.2.1, 36, .inl (eb k2)))] := by
                intro d48
                induction d48 with
                | zero => intro c m2 k2 hd48; exact absurd hd48 (Nat.not_lt_zero _)
                | succ d48 ih48 =>
                  intro c m2 k2 hd48 hc hI2 hz2 hm1 hm0
                  refine r_iload_n C dX11_countLeft_48 2 rfl rfl ?_
                  refine r_aload_n C dX11_countLeft_49 0 rfl rfl ?_
                  refine r_callV0 (n := 0) (ws' := fun (u : Unit) => [(rM, .inr (12, [.int (nI tn), .int (nI n), .int (nI (n / 2)), .int (nI 2), .int (nI sy), .ref rTh, .int (nI ez), .int la, .int ma, .long x, .ref rTe, .int (bz md), .ref rPu, .ref rWh, .ref rGi, .ref rDr, .ref rTr, .ref rKn, .ref rRo, .int (nI rws), .int (nI sz), .ref rTx])), (rGi, .inl (X.1.2.1, 36, .inl (eb gi))), (rKn, .inl (X.1.2.1, 36, .inl (eb k2)))]) C dX11_countLeft_50 (c_X11_cells (g := X.1) (l := X.2.2.1) (rM := rM) (rTh := rTh) (rTe := rTe) (rPu := rPu) (rWh := rWh) (rGi := rGi) (rDr := rDr) (rTr := rTr) (rKn := rKn) (rRo := rRo) (rTx := rTx) (tn := tn) (n := n) (N := N) (sy := sy) (ez := ez) (la := la) (ma := ma) (x := x) (md := md) (rws := rws) (sz := sz) (hn := (by first | assumption | omega))) gX11_countLeft_X11_cells rfl (by decide +kernel) rfl ⟨Nat.le_of_ble_eq_true rfl, Nat.le_of_ble_eq_true rfl⟩ ⟨rfl, rfl⟩ ⟨Nat.zero_le _, Nat.zero_le _⟩ (rest := [.int (nI c)]) rfl (Nat.le_of_ble_eq_true rfl) 0 rfl rfl [0] (by decide) rfl (fun u => Eq.trans (b := [rM]) rfl rfl) (fun u => rfl) (fun v u hp => ?_)
                  obtain rfl := hp
                  show RW X 0 0 53 [(0, .ref rM), (1, .int (bz m2)), (2, .int (nI c))] [.int (nI N), .int (nI c)] [(rM, .inr (12, [.int (nI tn), .int (nI n), .int (nI (n / 2)), .int (nI 2), .int (nI sy), .ref rTh, .int (nI ez), .int la, .int ma, .long x, .ref rTe, .int (bz md), .ref rPu, .ref rWh, .ref rGi, .ref rDr, .ref rTr, .ref rKn, .ref rRo, .int (nI rws), .int (nI sz), .ref rTx])), (rGi, .inl (X.1.2.1, 36, .inl (eb gi))), (rKn, .inl (X.1.2.1, 36, .inl (eb k2)))]
                  refine r_icmp_ge (tgt := 108) C dX11_countLeft_53 (by decide) (fun h53 => ?_) (fun h53 => ?_)
                  · have h53 : N ≤ c := (nI_leI (by omega) (by omega)).mp h53
                    refine r_goto (tgt := 40) C dX11_countLeft_108 (by decide) ?_
                    refine r_lv [0, 1] (lv' := [(0, .ref rM), (1, .int (bz m2))]) rfl ?_
                    exact ih40 m2 k2 (by have h9 := cl_me hm1 hm0; have h8 := fil_le N k2; rw [dI_t h41] at hd40; omega) hI2 hz2 (fun q => by rw [(hm0 q).1]; exact cl_end hn hA hI1.1 (fun c hc => (hm0 q).2 c (by omega)))
                  · have h53 : ¬ (N ≤ c) := fun e9 => h53 ((nI_leI (by omega) (by omega)).mpr e9)
                    refine r_iconst C dX11_countLeft_56 (v := nI 0) (by decide) ?_
                    refine r_istore_n C dX11_countLeft_57 rfl (by decide) [1, 2, 3, 0] (lv' := [(0, .ref rM), (1, .int (bz m2)), (2, .int (nI c)), (3, .int (nI 0))]) rfl ?_
                    have L58 : ∀ (d58 : Nat) (w : Nat) (m2 : Prop) (k2 : Nat → Option Nat), (n - w) < d58 → (w ≤ n) → (invK n N A gi k2) → (∀ c, N ≤ c → k2 c = none) → (m2 → fil N k1 < fil N k2) → (¬ m2 → k2 = k1 ∧ (∀ d, d < c → ∀ v, v < n → ¬ sgP n N k1 d v) ∧ ∀ v, v < w → ¬ sgP n N k1 c v) → RW X 0 0 58 [(0, .ref rM), (1, .int (bz m2)), (2, .int (nI c)), (3, .int (nI w))] [] [(rM, .inr (12, [.int (nI tn), .int (nI n), .int (nI (n / 2)), .int (nI 2), .int (nI sy), .ref rTh, .int (nI ez), .int la, .int ma, .long x, .ref rTe, .int (bz md), .ref rPu, .ref rWh, .ref rGi, .ref rDr, .ref rTr, .ref rKn, .ref rRo, .int (nI rws), .int (nI sz), .ref rTx])), (rGi, .inl (X.1.2.1, 36, .inl (eb gi))), (rKn, .inl (X.1.2.1, 36, .inl (eb k2)))] := by
                      intro d58
                      induction d58 with
                      | zero => intro w m2 k2 hd58; exact absurd hd58 (Nat.not_lt_zero _)
                      | succ d58 ih58 =>
                        intro w m2 k2 hd58 hw hI2 hz2 hm1 hm0
                        refine r_iload_n C dX11_countLeft_58 3 rfl rfl ?_
                        refine r_aload_n C dX11_countLeft_59 0 rfl rfl ?_
                        refine r_get C dX11_countLeft_60 iX11_countLeft_X11 1 fX11_countLeft_45 0 rfl rfl (by decide) rfl ?_
                        refine r_icmp_ge (tgt := 102) C dX11_countLeft_63 (by decide) (fun h63 => ?_) (fun h63 => ?_)
                        · have h63 : n ≤ w := (nI_leI (by omega) (by omega)).mp h63
                          refine r_iinc C dX11_countLeft_102 2 rfl (v := nI (c + 1)) (nI_add _ _) (by decide) [1, 2, 0, 3] (lv' := [(0, .ref rM), (1, .int (bz m2)), (2, .int (nI (c + 1))), (3, .int (nI w))]) rfl ?_
                          refine r_goto (tgt := 48) C dX11_countLeft_105 (by decide) ?_
                          refine r_lv [0, 1, 2] (lv' := [(0, .ref rM), (1, .int (bz m2)), (2, .int (nI (c + 1)))]) rfl ?_
                          exact ih48 (c + 1) m2 k2 (by omega) (by omega) hI2 hz2 hm1 (fun q => ⟨(hm0 q).1, all_S (hm0 q).2.1 (fun v hv => (hm0 q).2.2 v (by omega))⟩)
                        · have h63 : ¬ (n ≤ w) := fun e9 => h63 ((nI_leI (by omega) (by omega)).mpr e9)
                          refine r_aload_n C dX11_countLeft_66 0 rfl rfl ?_
                          refine r_iload_n C dX11_countLeft_67 2 rfl rfl ?_
                          refine r_iload_n C dX11_countLeft_68 3 rfl rfl ?_
                          refine r_callV0 (n := 2) (ws' := fun (u : Unit) => [(rM, .inr (12, [.int (nI tn), .int (nI n), .int (nI (n / 2)), .int (nI 2), .int (nI sy), .ref rTh, .int (nI ez), .int la, .int ma, .long x, .ref rTe, .int (bz md), .ref rPu, .ref rWh, .ref rGi, .ref rDr, .ref rTr, .ref rKn, .ref rRo, .int (nI rws), .int (nI sz), .ref rTx])), (rGi, .inl (X.1.2.1, 36, .inl (eb gi))), (rKn, .inl (X.1.2.1, 36, .inl (eb k2)))]) C dX11_countLeft_69 (c_X11_may (g := X.1) (l := X.2.2.1) (rM := rM) (rTh := rTh) (rTe := rTe) (rPu := rPu) (rWh := rWh) (rGi := rGi) (rDr := rDr) (rTr := rTr) (rKn := rKn) (rRo := rRo) (rTx := rTx) (tn := tn) (n := n) (N := N) (sy := sy) (ez := ez) (la := la) (ma := ma) (x := x) (md := md) (rws := rws) (sz := sz) (kn := k2) (c := c) (v := w) (hn := (by first | assumption | omega)) (hc := (by omega)) (hv := (by omega)) (hk := (kn_lt hA hI2.1 hz2))) gX11_countLeft_X11_may rfl (by decide +kernel) rfl ⟨Nat.le_of_ble_eq_true rfl, Nat.le_of_ble_eq_true rfl⟩ ⟨rfl, rfl⟩ ⟨Nat.zero_le _, Nat.zero_le _⟩ (rest := []) rfl (Nat.le_of_ble_eq_true rfl) 0 rfl rfl [0, 2] (by decide) rfl (fun u => Eq.trans (b := [rM, rKn]) rfl rfl) (fun u => rfl) (fun v u hp => ?_)
                          obtain rfl := hp
                          show RW X 0 0 72 [(0, .ref rM), (1, .int (bz m2)), (2, .int (nI c)), (3, .int (nI w))] [.int (bz (k2 c = none ∧ mayP n N k2 c w))] [(rM, .inr (12, [.int (nI tn), .int (nI n), .int (nI (n / 2)), .int (nI 2), .int (nI sy), .ref rTh, .int (nI ez), .int la, .int ma, .long x, .ref rTe, .int (bz md), .ref rPu, .ref rWh, .ref rGi, .ref rDr, .ref rTr, .ref rKn, .ref rRo, .int (nI rws), .int (nI sz), .ref rTx])), (rGi, .inl (X.1.2.1, 36, .inl (eb gi))), (rKn, .inl (X.1.2.1, 36, .inl (eb k2)))]
                          refine r_if_eq (tgt := 96) C dX11_countLeft_72 (by decide) (fun h72 => ?_) (fun h72 => ?_)
                          · have h72 : ¬ (k2 c = none ∧ mayP n N k2 c w) := bz_0.mp h72
                            refine r_iinc C dX11_countLeft_96 3 rfl (v := nI (w + 1)) (nI_add _ _) (by decide) [1, 2, 3, 0] (lv' := [(0, .ref rM), (1, .int (bz m2)), (2, .int (nI c)), (3, .int (nI (w + 1)))]) rfl ?_
                            refine r_goto (tgt := 58) C dX11_countLeft_99 (by decide) ?_
                            exact ih58 (w + 1) m2 k2 (by omega) (by omega) hI2 hz2 hm1 (fun q => ⟨(hm0 q).1, (hm0 q).2.1, fun v hv => by
                                            by_cases e : v = w
                                            · rw [e, ← (hm0 q).1]; exact fun w => h72 w.1
                                            · exact (hm0 q).2.2 v (by omega)⟩)
                          · have h72 : k2 c = none ∧ mayP n N k2 c w := bz_n0.mp h72
                            refine r_aload_n C dX11_countLeft_75 0 rfl rfl ?_
                            refine r_iload_n C dX11_countLeft_76 2 rfl rfl ?_
                            refine r_iload_n C dX11_countLeft_77 3 rfl rfl ?_
                            refine r_callV0 (n := 2) (ws' := fun (u : Unit) => [(rM, .inr (12, [.int (nI tn), .int (nI n), .int (nI (n / 2)), .int (nI 2), .int (nI sy), .ref rTh, .int (nI ez), .int la, .int ma, .long x, .ref rTe, .int (bz md), .ref rPu, .ref rWh, .ref rGi, .ref rDr, .ref rTr, .ref rKn, .ref rRo, .int (nI rws), .int (nI sz), .ref rTx])), (rGi, .inl (X.1.2.1, 36, .inl (eb gi))), (rKn, .inl (X.1.2.1, 36, .inl (eb k2)))]) C dX11_countLeft_78 (c_X11_isSingle (g := X.1) (l := X.2.2.1) (rM := rM) (rTh := rTh) (rTe := rTe) (rPu := rPu) (rWh := rWh) (rGi := rGi) (rDr := rDr) (rTr := rTr) (rKn := rKn) (rRo := rRo) (rTx := rTx) (tn := tn) (n := n) (N := N) (sy := sy) (ez := ez) (la := la) (ma := ma) (x := x) (md := md) (rws := rws) (sz := sz) (kn := k2) (c := c) (v := w) (hn := (by first | assumption | omega)) (hc := (by omega)) (hv := (by omega)) (hk := (kn_lt hA hI2.1 hz2))) gX11_countLeft_X11_isSingle rfl (by decide +kernel) rfl ⟨Nat.le_of_ble_eq_true rfl, Nat.le_of_ble_eq_true rfl⟩ ⟨rfl, rfl⟩ ⟨Nat.zero_le _, Nat.zero_le _⟩ (rest := []) rfl (Nat.le_of_ble_eq_true rfl) 0 rfl rfl [0, 2] (by decide) rfl (fun u => Eq.trans (b := [rM, rKn]) rfl rfl) (fun u => rfl) (fun v u hp => ?_)
                            obtain rfl := hp
                            show RW X 0 0 81 [(0, .ref rM), (1, .int (bz m2)), (2, .int (nI c)), (3, .int (nI w))] [.int (bz ((∀ u, u < n → u = w ∨ ¬ (k2 c = none ∧ mayP n N k2 c u)) ∨ ∃ k, k < 3 ∧ ∀ d, d < N → d = c ∨ ¬ uk n k d = uk n k c ∨ ¬ (k2 d = none ∧ mayP n N k2 d w)))] [(rM, .inr (12, [.int (nI tn), .int (nI n), .int (nI (n / 2)), .int (nI 2), .int (nI sy), .ref rTh, .int (nI ez), .int la, .int ma, .long x, .ref rTe, .int (bz md), .ref rPu, .ref rWh, .ref rGi, .ref rDr, .ref rTr, .ref rKn, .ref rRo, .int (nI rws), .int (nI sz), .ref rTx])), (rGi, .inl (X.1.2.1, 36, .inl (eb gi))), (rKn, .inl (X.1.2.1, 36, .inl (eb k2)))]
                            refine r_if_ne (tgt := 87) C dX11_countLeft_81 (by decide) (fun h81 => ?_) (fun h81 => ?_)
                            · have h81 : (∀ u, u < n → u = w ∨ ¬ (k2 c = none ∧ mayP n N k2 c u)) ∨ ∃ k, k < 3 ∧ ∀ d, d < N → d = c ∨ ¬ uk n k d = uk n k c ∨ ¬ (k2 d = none ∧ mayP n N k2 d w) := bz_n0.mp h81
                              have hsg := sing_A hn hA hI2.1 (show c < N by omega) h72.1 h72.2 h81
                              refine r_aload_n C dX11_countLeft_87 0 rfl rfl ?_
                              refine r_get C dX11_countLeft_88 iX11_countLeft_X11 17 fX11_countLeft_36 0 rfl rfl (by decide) rfl ?_
                              refine r_iload_n C dX11_countLeft_91 2 rfl rfl ?_
                              refine r_iload_n C dX11_countLeft_92 3 rfl rfl ?_
                              refine r_iast C dX11_countLeft_93 2 rfl (by omega) (by omega) (ws' := [(rM, .inr (12, [.int (nI tn), .int (nI n), .int (nI (n / 2)), .int (nI 2), .int (nI sy), .ref rTh, .int (nI ez), .int la, .int ma, .long x, .ref rTe, .int (bz md), .ref rPu, .ref rWh, .ref rGi, .ref rDr, .ref rTr, .ref rKn, .ref rRo, .int (nI rws), .int (nI sz), .ref rTx])), (rGi, .inl (X.1.2.1, 36, .inl (eb gi))), (rKn, .inl (X.1.2.1, 36, .inl (upd (eb k2) c (nI w))))]) rfl ?_
                              refine r_iconst C dX11_countLeft_94 (v := bz True) (by rw [bz_t trivial]; decide) ?_
                              refine r_istore_n C dX11_countLeft_95 rfl (by decide) [1, 0, 2, 3] (lv' := [(0, .ref rM), (1, .int (bz True)), (2, .int (nI c)), (3, .int (nI w))]) rfl ?_
                              rw [eb_s]
                              show RW X 0 0 96 [(0, .ref rM), (1, .int (bz True)), (2, .int (nI c)), (3, .int (nI w))] [] [(rM, .inr (12, [.int (nI tn), .int (nI n), .int (nI (n / 2)), .int (nI 2), .int (nI sy), .ref rTh, .int (nI ez), .int la, .int ma, .long x, .ref rTe, .int (bz md), .ref rPu, .ref rWh, .ref rGi, .ref rDr, .ref rTr, .ref rKn, .ref rRo, .int (nI rws), .int (nI sz), .ref rTx])), (rGi, .inl (X.1.2.1, 36, .inl (eb gi))), (rKn, .inl (X.1.2.1, 36, .inl (eb (ub k2 c (some w)))))]
                              refine r_iinc C dX11_countLeft_96 3 rfl (v := nI (w + 1)) (nI_add _ _) (by decide) [1, 2, 3, 0] (lv' := [(0, .ref rM), (1, .int (bz True)), (2, .int (nI c)), (3, .int (nI (w + 1)))]) rfl ?_
                              refine r_goto (tgt := 58) C dX11_countLeft_99 (by decide) ?_
                              exact ih58 (w + 1) True (ub k2 c (some w)) (by omega) (by omega) (by rw [← hsg.1]; exact invK_put hI2 (clo_of hI2 hsg.2)) (fun d q => by rw [ub_n (by omega)]; exact hz2 d q) (fun _ => by rw [fil_put (by omega) h72.1]; exact m2_lt hm0 hm1) (fun q => absurd trivial q)
                            · have h81 : ¬ ((∀ u, u < n → u = w ∨ ¬ (k2 c = none ∧ mayP n N k2 c u)) ∨ ∃ k, k < 3 ∧ ∀ d, d < N → d = c ∨ ¬ uk n k d = uk n k c ∨ ¬ (k2 d = none ∧ mayP n N k2 d w)) := bz_0.mp h81
                              refine r_goto (tgt := 96) C dX11_countLeft_84 (by decide) ?_
                              refine r_iinc C dX11_countLeft_96 3 rfl (v := nI (w + 1)) (nI_add _ _) (by decide) [1, 2, 3, 0] (lv' := [(0, .ref rM), (1, .int (bz m2)), (2, .int (nI c)), (3, .int (nI (w + 1)))]) rfl ?_
                              refine r_goto (tgt := 58) C dX11_countLeft_99 (by decide) ?_
                              exact ih58 (w + 1) m2 k2 (by omega) (by omega) hI2 hz2 hm1 (fun q => ⟨(hm0 q).1, (hm0 q).2.1, fun v hv => by
                                              by_cases e : v = w
                                              · rw [e, ← (hm0 q).1]; exact fun w => h81 w.2
                                              · exact (hm0 q).2.2 v (by omega)⟩)
                    exact L58 ((n - 0) + 1) 0 m2 k2 (Nat.lt_succ_self _) (Nat.zero_le _) hI2 hz2 hm1 (fun q => ⟨(hm0 q).1, (hm0 q).2, fun v hv => absurd hv (Nat.not_lt_zero v)⟩)
              exact L48 ((N - 0) + 1) 0 False k1 (Nat.lt_succ_self _) (Nat.zero_le _) hI1 hz1 False.elim (fun _ => ⟨rfl, fun d q => absurd q (Nat.not_lt_zero d)⟩)
        refine r_arrI 2 rfl (fun j q => congrArg eo (hk1 j (by omega))) (ws' := [(rM, .inr (12, [.int (nI tn), .int (nI n), .int (nI (n / 2)), .int (nI 2), .int (nI sy), .ref rTh, .int (nI ez), .int la, .int ma, .long x, .ref rTe, .int (bz md), .ref rPu, .ref rWh, .ref rGi, .ref rDr, .ref rTr, .ref rKn, .ref rRo, .int (nI rws), .int (nI sz), .ref rTx])), (rGi, .inl (X.1.2.1, 36, .inl (eb gi))), (rKn, .inl (X.1.2.1, 36, .inl (eb (fun c => if c < N then gi c else none))))]) rfl ?_
        exact L40 ((N - fil N (fun c => if c < N then gi c else none) + dI True) + 1) True (fun c => if c < N then gi c else none) (Nat.lt_succ_self _) (inv_cut hsub) (fun c q => by show (if c < N then gi c else none) = none; rw [if_neg (by omega)]) (fun q => absurd trivial q)
      · have h5 : ¬ (36 ≤ i) := fun e9 => h5 ((nI_leI (by omega) (by omega)).mpr e9)
        refine r_aload_n C dX11_countLeft_8 0 rfl rfl ?_
        refine r_get C dX11_countLeft_9 iX11_countLeft_X11 17 fX11_countLeft_36 0 rfl rfl (by decide) rfl ?_
        refine r_iload_n C dX11_countLeft_12 1 rfl rfl ?_
        refine r_iload_n C dX11_countLeft_13 1 rfl rfl ?_
        refine r_aload_n C dX11_countLeft_14 0 rfl rfl ?_
        refine r_callV0 (n := 0) (ws' := fun (u : Unit) => [(rM, .inr (12, [.int (nI tn), .int (nI n), .int (nI (n / 2)), .int (nI 2), .int (nI sy), .ref rTh, .int (nI ez), .int la, .int ma, .long x, .ref rTe, .int (bz md), .ref rPu, .ref rWh, .ref rGi, .ref rDr, .ref rTr, .ref rKn, .ref rRo, .int (nI rws), .int (nI sz), .ref rTx])), (rGi, .inl (X.1.2.1, 36, .inl (eb gi))), (rKn, .inl (X.1.2.1, 36, .inl (eb k1)))]) C dX11_countLeft_15 (c_X11_cells (g := X.1) (l := X.2.2.1) (rM := rM) (rTh := rTh) (rTe := rTe) (rPu := rPu) (rWh := rWh) (rGi := rGi) (rDr := rDr) (rTr := rTr) (rKn := rKn) (rRo := rRo) (rTx := rTx) (tn := tn) (n := n) (N := N) (sy := sy) (ez := ez) (la := la) (ma := ma) (x := x) (md := md) (rws := rws) (sz := sz) (hn := (by first | assumption | omega))) gX11_countLeft_X11_cells rfl (by decide +kernel) rfl ⟨Nat.le_of_ble_eq_true rfl, Nat.le_of_ble_eq_true rfl⟩ ⟨rfl, rfl⟩ ⟨Nat.zero_le _, Nat.zero_le _⟩ (rest := [.int (nI i), .int (nI i), .ref rKn]) rfl (Nat.le_of_ble_eq_true rfl) 0 rfl rfl [0] (by decide) rfl (fun u => Eq.trans (b := [rM]) rfl rfl) (fun u => rfl) (fun v u hp => ?_)
        obtain rfl := hp
        show RW X 0 0 18 [(0, .ref rM), (1, .int (nI i))] [.int (nI N), .int (nI i), .int (nI i), .ref rKn] [(rM, .inr (12, [.int (nI tn), .int (nI n), .int (nI (n / 2)), .int (nI 2), .int (nI sy), .ref rTh, .int (nI ez), .int la, .int ma, .long x, .ref rTe, .int (bz md), .ref rPu, .ref rWh, .ref rGi, .ref rDr, .ref rTr, .ref rKn, .ref rRo, .int (nI rws), .int (nI sz), .ref rTx])), (rGi, .inl (X.1.2.1, 36, .inl (eb gi))), (rKn, .inl (X.1.2.1, 36, .inl (eb k1)))]
        refine r_icmp_ge (tgt := 30) C dX11_countLeft_18 (by decide) (fun h18 => ?_) (fun h18 => ?_)
        · have h18 : N ≤ i := (nI_leI (by omega) (by omega)).mp h18
          refine r_iconst C dX11_countLeft_30 (v := (-1)) (by decide) ?_
          refine r_iast C dX11_countLeft_31 2 rfl (by omega) (by omega) (ws' := [(rM, .inr (12, [.int (nI tn), .int (nI n), .int (nI (n / 2)), .int (nI 2), .int (nI sy), .ref rTh, .int (nI ez), .int la, .int ma, .long x, .ref rTe, .int (bz md), .ref rPu, .ref rWh, .ref rGi, .ref rDr, .ref rTr, .ref rKn, .ref rRo, .int (nI rws), .int (nI sz), .ref rTx])), (rGi, .inl (X.1.2.1, 36, .inl (eb gi))), (rKn, .inl (X.1.2.1, 36, .inl (upd (eb k1) i (-1))))]) rfl ?_
          rw [eb_0]
          show RW X 0 0 32 [(0, .ref rM), (1, .int (nI i))] [] [(rM, .inr (12, [.int (nI tn), .int (nI n), .int (nI (n / 2)), .int (nI 2), .int (nI sy), .ref rTh, .int (nI ez), .int la, .int ma, .long x, .ref rTe, .int (bz md), .ref rPu, .ref rWh, .ref rGi, .ref rDr, .ref rTr, .ref rKn, .ref rRo, .int (nI rws), .int (nI sz), .ref rTx])), (rGi, .inl (X.1.2.1, 36, .inl (eb gi))), (rKn, .inl (X.1.2.1, 36, .inl (eb (ub k1 i none))))]
          refine r_iinc C dX11_countLeft_32 1 rfl (v := nI (i + 1)) (nI_add _ _) (by decide) [1, 0] (lv' := [(0, .ref rM), (1, .int (nI (i + 1)))]) rfl ?_
          refine r_goto (tgt := 2) C dX11_countLeft_35 (by decide) ?_
          exact ih2 (i + 1) (ub k1 i none) (by omega) (by omega) (all_S (fun c q => by rw [ub_n (by omega)]; exact hk1 c q) (by rw [ub_s, if_neg (by omega)]))
        · have h18 : ¬ (N ≤ i) := fun e9 => h18 ((nI_leI (by omega) (by omega)).mpr e9)
          refine r_aload_n C dX11_countLeft_21 0 rfl rfl ?_
          refine r_get C dX11_countLeft_22 iX11_countLeft_X11 14 fX11_countLeft_27 0 rfl rfl (by decide) rfl ?_
          refine r_iload_n C dX11_countLeft_25 1 rfl rfl ?_
          refine r_iald C dX11_countLeft_26 1 rfl (by omega) (by omega) ?_
          refine r_goto (tgt := 31) C dX11_countLeft_27 (by decide) ?_
          refine r_iast C dX11_countLeft_31 2 rfl (by omega) (by omega) (ws' := [(rM, .inr (12, [.int (nI tn), .int (nI n), .int (nI (n / 2)), .int (nI 2), .int (nI sy), .ref rTh, .int (nI ez), .int la, .int ma, .long x, .ref rTe, .int (bz md), .ref rPu, .ref rWh, .ref rGi, .ref rDr, .ref rTr, .ref rKn, .ref rRo, .int (nI rws), .int (nI sz), .ref rTx])), (rGi, .inl (X.1.2.1, 36, .inl (eb gi))), (rKn, .inl (X.1.2.1, 36, .inl (upd (eb k1) i ((eb gi) i))))]) rfl ?_
          rw [eb_u]
          show RW X 0 0 32 [(0, .ref rM), (1, .int (nI i))] [] [(rM, .inr (12, [.int (nI tn), .int (nI n), .int (nI (n / 2)), .int (nI 2), .int (nI sy), .ref rTh, .int (nI ez), .int la, .int ma, .long x, .ref rTe, .int (bz md), .ref rPu, .ref rWh, .ref rGi, .ref rDr, .ref rTr, .ref rKn, .ref rRo, .int (nI rws), .int (nI sz), .ref rTx])), (rGi, .inl (X.1.2.1, 36, .inl (eb gi))), (rKn, .inl (X.1.2.1, 36, .inl (eb (ub k1 i (gi i)))))]
          refine r_iinc C dX11_countLeft_32 1 rfl (v := nI (i + 1)) (nI_add _ _) (by decide) [1, 0] (lv' := [(0, .ref rM), (1, .int (nI (i + 1)))]) rfl ?_
          refine r_goto (tgt := 2) C dX11_countLeft_35 (by decide) ?_
          exact ih2 (i + 1) (ub k1 i (gi i)) (by omega) (by omega) (all_S (fun c q => by rw [ub_n (by omega)]; exact hk1 c q) (by rw [ub_s, if_pos (by omega)]))
  exact L2 ((36 - 0) + 1) 0 kn (Nat.lt_succ_self _) (Nat.zero_le _) (fun c q => absurd q (Nat.not_lt_zero c))
