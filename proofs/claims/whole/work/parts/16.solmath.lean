/-! what the solver's walks need -/
def preB (gb : Nat → Option Nat) (i : Nat) : Nat → Option Nat := fun d => if d < i then gb d else none
theorem preB_0 {gb : Nat → Option Nat} : (fun _ => none) = preB gb 0 := by funext d; simp [preB]
theorem preB_none {gb : Nat → Option Nat} {i : Nat} (h : gb i = none) : preB gb i = preB gb (i + 1) := by
  funext d
  unfold preB
  by_cases e : d < i
  · rw [if_pos e, if_pos (by omega)]
  · rw [if_neg e]
    by_cases e2 : d < i + 1
    · rw [if_pos e2, show d = i by omega, h]
    · rw [if_neg e2]
theorem preB_some {gb : Nat → Option Nat} {i v : Nat} (h : gb i = some v) : ub (preB gb i) i (some v) = preB gb (i + 1) := by
  funext d
  unfold ub preB
  by_cases e : d = i
  · rw [if_pos e, if_pos (by omega), e, h]
  · rw [if_neg e]
    by_cases e2 : d < i
    · rw [if_pos e2, if_pos (by omega)]
    · rw [if_neg e2, if_neg (by omega)]
theorem preB_at {gb : Nat → Option Nat} {i : Nat} : preB gb i i = none := by unfold preB; rw [if_neg (by omega)]
theorem preB_may {n N i v : Nat} {gb : Nat → Option Nat} (hok : okB n N gb) (hi : i < N) (hv : gb i = some v) : mayP n N (preB gb i) i v := by
  refine ⟨hok.1 i v hv, fun d hd ht e => ?_⟩
  unfold preB at e
  by_cases q : d < i
  · rw [if_pos q] at e
    exact hok.2 i d v hi hd (by omega) ht hv e
  · rw [if_neg q] at e; cases e
theorem mask_congr {N : Nat} {p : Nat → Nat} {b b' : Nat → Option Nat} (h : ∀ d, d < N → b d = b' d) (y : Nat) : nI (mkN (fun v => ∃ d, d < N ∧ p d = y ∧ b d = some v)) = nI (mkN (fun v => ∃ d, d < N ∧ p d = y ∧ b' d = some v)) := by
  refine congrArg nI (mkN_ext (fun i _ => ?_))
  constructor
  · rintro ⟨d, q1, q2, q3⟩; exact ⟨d, q1, q2, by rw [← h d q1]; exact q3⟩
  · rintro ⟨d, q1, q2, q3⟩; exact ⟨d, q1, q2, by rw [h d q1]; exact q3⟩
theorem preB_N {gb : Nat → Option Nat} {N : Nat} : ∀ d, d < N → preB gb N d = gb d := fun d q => by unfold preB; rw [if_pos q]
theorem eo_some {o : Option Nat} (h : ¬ eo o < 0) : ∃ v, o = some v := by
  cases o with
  | none => exact absurd (by decide) h
  | some v => exact ⟨v, rfl⟩
theorem eo_none {n : Nat} {o : Option Nat} (h : eo o < 0) (hv : ∀ v, o = some v → v < n) (hn : n < 2147483648) : o = none := (eo_neg (fun v e => by have := hv v e; omega)).mp h
abbrev nO (o : Nat → Nat) : Nat → Int32 := fun j => nI (o j)
def uO (o : Nat → Nat) (i x : Nat) : Nat → Nat := fun j => if j = i then x else o j
theorem nO_u {o : Nat → Nat} {i x : Nat} : upd (nO o) i (nI x) = nO (uO o i x) := by
  funext j
  by_cases e : j = i
  · subst e; simp [upd, nO, uO]
  · simp [upd, nO, uO, e]
/-- the first k of o are the empty cells of b, each once -/
def enP (N : Nat) (b : Nat → Option Nat) (o : Nat → Nat) (k : Nat) : Prop := (∀ j, j < k → o j < N ∧ b (o j) = none) ∧ (∀ c, c < N → b c = none → ∃ j, j < k ∧ o j = c) ∧ ∀ i j, i < k → j < k → o i = o j → i = j
theorem enP_ub {N k c u v : Nat} {b : Nat → Option Nat} {o : Nat → Nat} (h : enP N (ub b c (some u)) o k) : enP N (ub b c (some v)) o k := by
  have e : ∀ d, ub b c (some u) d = none ↔ ub b c (some v) d = none := fun d => by
    by_cases q : d = c
    · subst q; rw [ub_s, ub_s]; simp
    · rw [ub_n q, ub_n q]
  exact ⟨fun j q => ⟨(h.1 j q).1, (e _).mp (h.1 j q).2⟩, fun d q1 q2 => h.2.1 d q1 ((e d).mpr q2), h.2.2⟩
theorem enP_swap {N k a u : Nat} {b : Nat → Option Nat} {o : Nat → Nat} (h : enP N b o k) (ha : a < k) : enP N (ub b (o a) (some u)) (uO (uO o a (o (k - 1))) (k - 1) (o a)) (k - 1) ∧ uO (uO o a (o (k - 1))) (k - 1) (o a) (k - 1) = o a ∧ ∀ j, k ≤ j → uO (uO o a (o (k - 1))) (k - 1) (o a) j = o j := by
  have val : ∀ j, j < k - 1 → uO (uO o a (o (k - 1))) (k - 1) (o a) j = if j = a then o (k - 1) else o j := fun j q => by
    unfold uO
    rw [if_neg (by omega)]
  refine ⟨⟨fun j q => ?_, fun c q1 q2 => ?_, fun i j q1 q2 e => ?_⟩, by unfold uO; rw [if_pos rfl], fun j q => by unfold uO; rw [if_neg (by omega), if_neg (by omega)]⟩
  · rw [val j q]
    by_cases e : j = a
    · rw [if_pos e]
      have hne : o (k - 1) ≠ o a := fun w => by have := h.2.2 _ _ (by omega) ha w; omega
      exact ⟨(h.1 (k - 1) (by omega)).1, by rw [ub_n hne]; exact (h.1 (k - 1) (by omega)).2⟩
    · rw [if_neg e]
      have hne : o j ≠ o a := fun w => e (h.2.2 _ _ (by omega) ha w)
      exact ⟨(h.1 j (by omega)).1, by rw [ub_n hne]; exact (h.1 j (by omega)).2⟩
  · have hc : c ≠ o a := fun w => by rw [w, ub_s] at q2; cases q2
    rw [ub_n hc] at q2
    obtain ⟨j, q3, q4⟩ := h.2.1 c q1 q2
    have hj : j ≠ a := fun w => hc (by rw [← q4, w])
    by_cases e : j = k - 1
    · have hak : a < k - 1 := by omega
      exact ⟨a, hak, by rw [val a hak, if_pos rfl, ← e]; exact q4⟩
    · exact ⟨j, by omega, by rw [val j (by omega), if_neg hj]; exact q4⟩
  · rw [val i q1, val j q2] at e
    by_cases e1 : i = a
    · by_cases e2 : j = a
      · omega
      · rw [if_pos e1, if_neg e2] at e
        have := h.2.2 _ _ (by omega) (by omega) e
        omega
    · by_cases e2 : j = a
      · rw [if_neg e1, if_pos e2] at e
        have := h.2.2 _ _ (by omega) (by omega) e
        omega
      · rw [if_neg e1, if_neg e2] at e
        exact h.2.2 _ _ (by omega) (by omega) e
theorem enP_back {N k c u : Nat} {b : Nat → Option Nat} {o : Nat → Nat} (h : enP N (ub b c (some u)) o (k - 1)) (hk : 1 ≤ k) (hc : c < N) (h0 : b c = none) (e : o (k - 1) = c) : enP N b o k := by
  have hd : ∀ j, j < k - 1 → o j ≠ c := fun j q w => by have := (h.1 j q).2; rw [w, ub_s] at this; cases this
  refine ⟨fun j q => ?_, fun d q1 q2 => ?_, fun i j q1 q2 w => ?_⟩
  · by_cases q3 : j = k - 1
    · rw [q3, e]; exact ⟨hc, h0⟩
    · have h1 := h.1 j (by omega)
      rw [ub_n (hd j (by omega))] at h1
      exact h1
  · by_cases q3 : d = c
    · exact ⟨k - 1, by omega, by rw [e, q3]⟩
    · obtain ⟨j, q4, q5⟩ := h.2.1 d q1 (by rw [ub_n q3]; exact q2)
      exact ⟨j, by omega, q5⟩
  · by_cases e1 : i = k - 1
    · by_cases e2 : j = k - 1
      · omega
      · rw [e1, e] at w
        exact absurd w.symm (hd j (by omega))
    · by_cases e2 : j = k - 1
      · rw [e2, e] at w
        exact absurd w (hd i (by omega))
      · exact h.2.2 i j (by omega) (by omega) w
theorem shr_s : ∀ m, m < 64 → ∀ s, s < 6 → nI m >>> (nI s &&& 31) = nI (m >>> s) := by decide +kernel
theorem bit_s : ∀ m, m < 64 → ∀ s, s < 6 → nI (m >>> s) &&& nI 1 = nI ((m.testBit s).toNat) := by decide +kernel
theorem bit_0 {P : Nat → Prop} {s : Nat} (hs : s < 6) (h : ((mkN P).testBit s).toNat = 0) : ¬ P s := fun q => by
  rw [(mkN_tb P hs).mpr q] at h
  exact absurd h (by decide)
theorem bit_1 {P : Nat → Prop} {s : Nat} (hs : s < 6) (h : ¬ ((mkN P).testBit s).toNat = 0) : P s := by
  cases e : (mkN P).testBit s
  · rw [e] at h; exact absurd rfl h
  · exact (mkN_tb P hs).mp e
