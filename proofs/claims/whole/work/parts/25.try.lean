/-! one try, as mathematics -/
def needP (n N : Nat) (lf : Nat → Nat) (ss : Nat) (gv : Nat → Option Nat) : Prop := soP N ss lf gv ∧ 1 < min 2 (0 + cntS n N (woF lf ss gv))
noncomputable def goF (n N : Nat) (lf row : Nat → Nat) : Nat → Nat → (Nat → Option Nat) → Nat → (Nat → Option Nat) × Nat
  | 0, _, gv, pb => (gv, pb)
  | k + 1, i, gv, pb => @ite _ (needP n N lf (row i) gv) (Classical.propDecidable _) (goF n N lf row k (i + 1) gv (pb + 1)) (goF n N lf row k (i + 1) (woF lf (row i) gv) pb)
theorem goF_t {n N k i pb : Nat} {lf row : Nat → Nat} {gv : Nat → Option Nat} (h : needP n N lf (row i) gv) : goF n N lf row (k + 1) i gv pb = goF n N lf row k (i + 1) gv (pb + 1) := by rw [goF, if_pos h]
theorem goF_f {n N k i pb : Nat} {lf row : Nat → Nat} {gv : Nat → Option Nat} (h : ¬ needP n N lf (row i) gv) : goF n N lf row (k + 1) i gv pb = goF n N lf row k (i + 1) (woF lf (row i) gv) pb := by rw [goF, if_neg h]
theorem goF_row {n N : Nat} {lf r r' : Nat → Nat} : ∀ (k i : Nat) (gv : Nat → Option Nat) (pb : Nat), (∀ j, i ≤ j → j < i + k → r j = r' j) → goF n N lf r k i gv pb = goF n N lf r' k i gv pb
  | 0, _, _, _, _ => rfl
  | k + 1, i, gv, pb, h => by
    have e := h i (Nat.le_refl i) (by omega)
    by_cases q : needP n N lf (r i) gv
    · rw [goF_t q, goF_t (by rw [← e]; exact q)]
      exact goF_row k (i + 1) gv (pb + 1) (fun j q1 q2 => h j (by omega) (by omega))
    · rw [goF_f q, goF_f (by rw [← e]; exact q), e]
      exact goF_row k (i + 1) _ pb (fun j q1 q2 => h j (by omega) (by omega))
theorem mix_congr : ∀ (i : Nat) (x : Int64) (r r' : Nat → Nat), (∀ j, j ≤ i → r j = r' j) → (mixF i x r).1 = (mixF i x r').1 ∧ ∀ j, j ≤ i → (mixF i x r).2 j = (mixF i x r').2 j
  | 0, x, r, r', h => ⟨rfl, fun j q => h j q⟩
  | i + 1, x, r, r', h => by
    have hj : hb (nx x) % (i + 1 + 1) < i + 1 + 1 := Nat.mod_lt _ (by omega)
    have hu : ∀ j, j ≤ i + 1 → uO (uO r (i + 1) (r (hb (nx x) % (i + 1 + 1)))) (hb (nx x) % (i + 1 + 1)) (r (i + 1)) j = uO (uO r' (i + 1) (r' (hb (nx x) % (i + 1 + 1)))) (hb (nx x) % (i + 1 + 1)) (r' (i + 1)) j := fun j q => by
      unfold uO
      rw [h (i + 1) (Nat.le_refl _), h _ (by omega : hb (nx x) % (i + 1 + 1) ≤ i + 1), h j q]
    obtain ⟨h1, h2⟩ := mix_congr i (nx x) _ _ (fun j q => hu j (by omega))
    refine ⟨h1, fun j q => ?_⟩
    by_cases e : j ≤ i
    · exact h2 j e
    · have hk : ∀ (k : Nat) (y : Int64) (s : Nat → Nat) (j : Nat), k < j → (mixF k y s).2 j = s j := by
        intro k
        induction k with
        | zero => intro y s j _; rfl
        | succ k ih =>
          intro y s j hj
          show (mixF k (nx y) _).2 j = s j
          have hm : hb (nx y) % (k + 1 + 1) < k + 1 + 1 := Nat.mod_lt _ (by omega)
          rw [ih (nx y) _ j (by omega)]
          unfold uO
          rw [if_neg (by omega), if_neg (by omega)]
      show (mixF i (nx x) _).2 j = (mixF i (nx x) _).2 j
      rw [hk i _ _ j (by omega), hk i _ _ j (by omega)]
      exact hu j q
theorem mix_in : ∀ (i : Nat) (x : Int64) (r : Nat → Nat) (P : Nat → Prop), (∀ j, j ≤ i → P (r j)) → ∀ j, j ≤ i → P ((mixF i x r).2 j) := by
  intro i x r P h
  have key : ∀ (i : Nat) (x : Int64) (r : Nat → Nat) (M : Nat), i ≤ M → (∀ j, j ≤ M → P (r j)) → ∀ j, j ≤ M → P ((mixF i x r).2 j) := by
    intro i
    induction i with
    | zero => intro x r M _ h j q; exact h j q
    | succ i ih =>
      intro x r M hM h
      refine ih (nx x) _ M (by omega) (fun j q => ?_)
      have hj : hb (nx x) % (i + 1 + 1) < i + 1 + 1 := Nat.mod_lt _ (by omega)
      unfold uO
      by_cases e : j = hb (nx x) % (i + 1 + 1)
      · rw [if_pos e]; exact h _ (by omega)
      · rw [if_neg e]
        by_cases e2 : j = i + 1
        · rw [if_pos e2]; exact h _ (by omega)
        · rw [if_neg e2]; exact h j q
  exact key i x r i (Nat.le_refl i) h
theorem kthV_lt {P : Nat → Prop} : ∀ {N j : Nat}, j < cn P N → kthV P j < N ∧ P (kthV P j) ∧ cn P (kthV P j) = j
  | 0, j, h => absurd h (Nat.not_lt_zero j)
  | N + 1, j, h => by
    by_cases q : j < cn P N
    · obtain ⟨h1, h2⟩ := kthV_lt q
      exact ⟨by omega, h2⟩
    · have h2 : j < cn P N + dI (P N) := h
      by_cases hP : P N
      · rw [dI_t hP] at h2
        have e : cn P N = j := by omega
        rw [kthV_is hP e]
        exact ⟨by omega, hP, e⟩
      · rw [dI_f hP] at h2; omega
def trP (n N : Nat) (th lf : Nat → Nat) (W0 : Nat → Option Nat) : Prop := (∀ c, c < N → (∃ d, d < N ∧ th d = 2 ∧ lf d = lf c) → th c ≠ 1) ∧ min 2 (0 + cntS n N (emF N th lf W0)) < 2
/-- the row's length, and the row as it is mixed, with X behind it -/
noncomputable def rlN (N : Nat) (lf th : Nat → Nat) (W0 : Nat → Option Nat) : Nat := cn (rowP N lf th (emF N th lf W0)) N
noncomputable def mxF (N : Nat) (lf th : Nat → Nat) (W0 : Nat → Option Nat) (x : Int64) : Int64 × (Nat → Nat) := mixF (rlN N lf th W0 - 1) x (kthV (rowP N lf th (emF N th lf W0)))
noncomputable def gdF (n N : Nat) (lf th : Nat → Nat) (W0 : Nat → Option Nat) (x : Int64) (pb : Nat) : (Nat → Option Nat) × Nat := goF n N lf (mxF N lf th W0 x).2 (rlN N lf th W0) 0 (emF N th lf W0) pb
def asA (W0 : Nat → Option Nat) : Nat → Nat := fun c => (W0 c).getD 0
noncomputable def tryF (n N : Nat) (lf th : Nat → Nat) (ez : Nat) (la ma : Int32) (x : Int64) (rs tk pb : Nat) : Prop × Int64 × Nat × Nat × Nat × (Nat → Option Nat) × (Nat → Option Nat) :=
  @ite _ ((drawW n N 200 x rs).1 = true ∧ trP n N th lf (drawW n N 200 x rs).2.2.2) (Classical.propDecidable _)
    (metP ez la ma (fil N (gdF n N lf th (drawW n N 200 x rs).2.2.2 (drawW n N 200 x rs).2.1 pb).1) (leftN n N (asA (drawW n N 200 x rs).2.2.2) (gdF n N lf th (drawW n N 200 x rs).2.2.2 (drawW n N 200 x rs).2.1 pb).1 = 0), (mxF N lf th (drawW n N 200 x rs).2.2.2 (drawW n N 200 x rs).2.1).1, (drawW n N 200 x rs).2.2.1, tk + rlN N lf th (drawW n N 200 x rs).2.2.2, (gdF n N lf th (drawW n N 200 x rs).2.2.2 (drawW n N 200 x rs).2.1 pb).2, (drawW n N 200 x rs).2.2.2, (gdF n N lf th (drawW n N 200 x rs).2.2.2 (drawW n N 200 x rs).2.1 pb).1)
    (False, (drawW n N 200 x rs).2.1, (drawW n N 200 x rs).2.2.1, tk, pb, (drawW n N 200 x rs).2.2.2, (drawW n N 200 x rs).2.2.2)
theorem tryF_f {n N ez rs tk pb : Nat} {lf th : Nat → Nat} {la ma : Int32} {x : Int64} (h : ¬ ((drawW n N 200 x rs).1 = true ∧ trP n N th lf (drawW n N 200 x rs).2.2.2)) : tryF n N lf th ez la ma x rs tk pb = (False, (drawW n N 200 x rs).2.1, (drawW n N 200 x rs).2.2.1, tk, pb, (drawW n N 200 x rs).2.2.2, (drawW n N 200 x rs).2.2.2) := by unfold tryF; rw [if_neg h]
theorem tryF_t {n N ez rs tk pb p1 : Nat} {lf th : Nat → Nat} {la ma : Int32} {x : Int64} {W0 g1 : Nat → Option Nat} {r : Nat → Nat} (h1 : (drawW n N 200 x rs).1 = true) (e : (drawW n N 200 x rs).2.2.2 = W0) (h2 : trP n N th lf W0) (hr : ∀ j, j < rlN N lf th W0 → r j = kthV (rowP N lf th (emF N th lf W0)) j) (hg : goF n N lf (mixF (rlN N lf th W0 - 1) (drawW n N 200 x rs).2.1 r).2 (rlN N lf th W0) 0 (emF N th lf W0) pb = (g1, p1)) :
    tryF n N lf th ez la ma x rs tk pb = (metP ez la ma (fil N g1) (leftN n N (asA W0) g1 = 0), (mixF (rlN N lf th W0 - 1) (drawW n N 200 x rs).2.1 r).1, (drawW n N 200 x rs).2.2.1, tk + rlN N lf th W0, p1, W0, g1) := by
  have hm : ∀ i, i ≤ rlN N lf th W0 - 1 → 0 < rlN N lf th W0 → r i = kthV (rowP N lf th (emF N th lf W0)) i := fun i q q2 => hr i (by omega)
  have hmx : (mxF N lf th W0 (drawW n N 200 x rs).2.1).1 = (mixF (rlN N lf th W0 - 1) (drawW n N 200 x rs).2.1 r).1 ∧ ∀ j, j < rlN N lf th W0 → (mxF N lf th W0 (drawW n N 200 x rs).2.1).2 j = (mixF (rlN N lf th W0 - 1) (drawW n N 200 x rs).2.1 r).2 j := by
    by_cases q : 0 < rlN N lf th W0
    · obtain ⟨a, b⟩ := mix_congr (rlN N lf th W0 - 1) (drawW n N 200 x rs).2.1 (kthV (rowP N lf th (emF N th lf W0))) r (fun j w => (hm j w q).symm)
      exact ⟨a, fun j w => b j (by omega)⟩
    · have e0 : rlN N lf th W0 - 1 = 0 := by omega
      refine ⟨?_, fun j w => by omega⟩
      unfold mxF
      rw [e0]; rfl
  have hgd : gdF n N lf th W0 (drawW n N 200 x rs).2.1 pb = (g1, p1) := by
    unfold gdF
    rw [goF_row _ _ _ _ (fun j _ q => hmx.2 j (by omega)), hg]
  unfold tryF
  rw [e, if_pos ⟨h1, h2⟩, hgd, hmx.1]
theorem drawF_ok {n N : Nat} (hn : (n = 4 ∧ N = 16) ∨ (n = 6 ∧ N = 36)) : ∀ (k : Nat) (x : Int64) (b : Nat → Option Nat), okB n N b → fil N b + k = N → (drawF n N k x b).1 = true → okB n N (drawF n N k x b).2.2 ∧ fil N (drawF n N k x b).2.2 = N
  | 0, x, b, hok, hf, _ => ⟨hok, by show fil N b = N; omega⟩
  | k + 1, x, b, hok, hf, h => by
    obtain ⟨c0, q1, q2⟩ := cn_ex (P := fun c => b c ≠ none) (N := N) (by show fil N b < N; omega)
    have hbest : ∃ c, isBest n N b c := by
      have hmin := pk_least (fun w => ∃ d, d < N ∧ b d = none ∧ wy n N b d = w) ⟨_, c0, q1, Classical.byContradiction q2, rfl⟩
      obtain ⟨w, ⟨d, hd, h0, hw⟩, hlow⟩ := hmin
      obtain ⟨c, ⟨hc, hc0, hcw⟩, hlow2⟩ := pk_least (fun d => d < N ∧ b d = none ∧ wy n N b d = w) ⟨d, hd, h0, hw⟩
      have hge : ∀ d, d < N → b d = none → w ≤ wy n N b d := fun d hd h0 => Nat.not_lt.mp (fun q => hlow _ q ⟨d, hd, h0, rfl⟩)
      refine ⟨c, hc, hc0, fun d hd h0 => by rw [hcw]; exact hge d hd h0, fun d hd h0 => ?_⟩
      rw [hcw]
      have h1 := hge d (by omega) h0
      have h2 : wy n N b d ≠ w := fun q => hlow2 d hd ⟨by omega, h0, q⟩
      omega
    obtain ⟨c, hc⟩ := hbest
    by_cases hw : wy n N b c = 0
    · rw [drawF_0 hc hw] at h; exact absurd (show false = true from h) (by decide)
    · have hlt : hb (nx x) % wy n N b c < wy n N b c := Nat.mod_lt _ (by omega)
      rw [wy_cn hn] at hlt
      obtain ⟨v1, v2, v3⟩ := kthV_lt (P := mayP n N b c) (N := n) hlt
      rw [← wy_cn hn] at v2 v3
      rw [drawF_s hc hw v2 v3] at h ⊢
      exact drawF_ok hn k _ _ (okB_put hok v2) (by rw [fil_put hc.1 hc.2.1]; omega) h
theorem drawW_ok {n N : Nat} (hn : (n = 4 ∧ N = 16) ∨ (n = 6 ∧ N = 36)) : ∀ (k : Nat) (x : Int64) (r : Nat), (drawW n N k x r).1 = true → okB n N (drawW n N k x r).2.2.2 ∧ ∀ c, c < N → (drawW n N k x r).2.2.2 c ≠ none
  | 0, x, r, h => by cases h
  | k + 1, x, r, h => by
    by_cases q : (drawF n N N x (fun _ => none)).1 = true
    · rw [drawW_t rfl q]
      obtain ⟨h1, h2⟩ := drawF_ok hn N x _ (okB_none n N) (by rw [fil_0]; omega) q
      exact ⟨h1, cn_full h2⟩
    · rw [drawW_f rfl q] at h ⊢
      exact drawW_ok hn k _ _ h
theorem asA_ok {n N : Nat} {W0 : Nat → Option Nat} (hok : okB n N W0) (hf : ∀ c, c < N → W0 c ≠ none) : fulA n N (asA W0) ∧ ∀ c, c < N → W0 c = some (asA W0 c) := by
  have h : ∀ c, c < N → W0 c = some (asA W0 c) := fun c hc => by
    unfold asA
    cases e : W0 c with
    | none => exact absurd e (hf c hc)
    | some v => rfl
  exact ⟨⟨fun c hc => hok.1 c _ (h c hc), fun c d hc hd hne ht e => hok.2 c d _ hc hd hne ht (h c hc) (by rw [h d hd, e])⟩, h⟩
/-- a board of cells of W0 -/
def ofW (g W0 : Nat → Option Nat) : Prop := ∀ c v, g c = some v → W0 c = some v
theorem ofW_em {N : Nat} {th lf : Nat → Nat} {W0 : Nat → Option Nat} : ofW (emF N th lf W0) W0 := fun c v e => by
  by_cases q : ∃ d, d < N ∧ th d = 2 ∧ lf d = lf c
  · rw [emF_t q] at e; cases e
  · rw [emF_f q] at e; exact e
theorem ofW_wo {lf : Nat → Nat} {ss : Nat} {g W0 : Nat → Option Nat} (h : ofW g W0) : ofW (woF lf ss g) W0 := fun c v e => by
  unfold woF at e
  by_cases q : lf c = ss
  · rw [if_pos q] at e; cases e
  · rw [if_neg q] at e; exact h c v e
theorem ofW_sub {n N : Nat} {g W0 : Nat → Option Nat} (h : ofW g W0) (hok : okB n N W0) (hf : ∀ c, c < N → W0 c ≠ none) : subA N g (asA W0) := fun c v hc e => by
  have h1 := h c v e
  rw [(asA_ok hok hf).2 c hc] at h1
  exact (Option.some.inj h1).symm
theorem goF_of {n N : Nat} {lf row : Nat → Nat} {W0 : Nat → Option Nat} : ∀ (k i : Nat) (gv : Nat → Option Nat) (pb : Nat), ofW gv W0 → ofW (goF n N lf row k i gv pb).1 W0
  | 0, _, _, _, h => h
  | k + 1, i, gv, pb, h => by
    by_cases q : needP n N lf (row i) gv
    · rw [goF_t q]; exact goF_of k _ _ _ h
    · rw [goF_f q]; exact goF_of k _ _ _ (ofW_wo h)
theorem tryF_ok {n N ez rs tk pb : Nat} {lf th : Nat → Nat} {la ma : Int32} {x : Int64} (hn : (n = 4 ∧ N = 16) ∨ (n = 6 ∧ N = 36)) (h : (tryF n N lf th ez la ma x rs tk pb).1) : okB n N (tryF n N lf th ez la ma x rs tk pb).2.2.2.2.2.1 ∧ (∀ c, c < N → (tryF n N lf th ez la ma x rs tk pb).2.2.2.2.2.1 c ≠ none) ∧ ofW (tryF n N lf th ez la ma x rs tk pb).2.2.2.2.2.2 (tryF n N lf th ez la ma x rs tk pb).2.2.2.2.2.1 := by
  by_cases q : (drawW n N 200 x rs).1 = true ∧ trP n N th lf (drawW n N 200 x rs).2.2.2
  · unfold tryF
    rw [if_pos q]
    obtain ⟨h1, h2⟩ := drawW_ok hn 200 x rs q.1
    exact ⟨h1, h2, goF_of _ _ _ _ ofW_em⟩
  · rw [tryF_f q] at h; exact absurd h id
