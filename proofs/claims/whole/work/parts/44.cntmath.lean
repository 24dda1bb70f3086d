/-! the reference's count: how many answers go on from a beginning -/
def prQ (tr : Nat → Option Nat) (c : Nat) : (Nat → Nat) → Prop := fun A => ∀ j, j < c → tr j = some (A j)
noncomputable def cnP (n N : Nat) (gi tr : Nat → Option Nat) (c : Nat) : Nat := cntQ n N gi (prQ tr c)
theorem cnP_0 {n N : Nat} {gi tr : Nat → Option Nat} : cnP n N gi tr 0 = cntS n N gi := cntQ_congr (fun A _ => ⟨fun h => ⟨h.1, trivial⟩, fun h => ⟨h.1, fun j q => absurd q (Nat.not_lt_zero j)⟩⟩)
theorem cnP_congr {n N c : Nat} {gi tr tr' : Nat → Option Nat} (h : ∀ j, j < c → tr' j = tr j) : cnP n N gi tr' c = cnP n N gi tr c := cntQ_congr (fun A _ => by
  constructor
  · rintro ⟨a, b⟩; exact ⟨a, fun j q => by rw [← h j q]; exact b j q⟩
  · rintro ⟨a, b⟩; exact ⟨a, fun j q => by rw [h j q]; exact b j q⟩)
theorem cnP_split {n N c : Nat} {gi tr : Nat → Option Nat} (hc : c < N) : cnP n N gi tr c = sumV n (fun v => cnP n N gi (ub tr c (some v)) (c + 1)) := by
  unfold cnP
  rw [cntQ_split hc]
  refine sumV_congr (fun v _ => cntQ_congr (fun A _ => ?_))
  constructor
  · rintro ⟨a, b, e⟩
    refine ⟨a, fun j q => ?_⟩
    by_cases w : j = c
    · subst w; rw [ub_s, e]
    · rw [ub_n w]; exact b j (by omega)
  · rintro ⟨a, b⟩
    refine ⟨a, fun j q => ?_, ?_⟩
    · have := b j (by omega); rw [ub_n (by omega)] at this; exact this
    · have := b c (by omega); rw [ub_s] at this; exact (Option.some.inj this).symm
theorem cnP_g {n N c v g : Nat} {gi tr : Nat → Option Nat} (hc : c < N) (hg : gi c = some g) (hv : v ≠ g) : cnP n N gi (ub tr c (some v)) (c + 1) = 0 := cntQ_0 (fun A ⟨a, b⟩ => by
  have h1 := b c (by omega)
  rw [ub_s] at h1
  have h2 := a.1 c g hc hg
  exact hv ((Option.some.inj h1).trans h2))
theorem cnP_f {n N c v : Nat} {gi tr : Nat → Option Nat} (hc : c < N) (h : ¬ ∀ d, d < N → (if d < c then tr d else gi d) = some v → ¬ (d ≠ c ∧ tog n d c)) : cnP n N gi (ub tr c (some v)) (c + 1) = 0 := cntQ_0 (fun A ⟨a, b⟩ => h (fun d hd e ⟨hne, ht⟩ => by
  have h1 := b c (by omega)
  rw [ub_s] at h1
  have hAc : A c = v := (Option.some.inj h1).symm
  have hAd : A d = v := by
    by_cases q : d < c
    · rw [if_pos q] at e
      have h2 := b d (by omega)
      rw [ub_n hne, e] at h2
      exact (Option.some.inj h2).symm
    · rw [if_neg q] at e
      exact a.1 d v hd e
  exact a.2 d c hd hc hne ht (by rw [hAd, hAc])))
/-- the first c of tr are right so far -/
def preT (n : Nat) (gi tr : Nat → Option Nat) (c : Nat) : Prop := ∀ i, i < c → ∃ v, tr i = some v ∧ v < n ∧ (∀ g, gi i = some g → v = g) ∧ ∀ j, j < i → tog n j i → tr j ≠ some v
theorem preT_S {n N c v : Nat} {gi tr : Nat → Option Nat} (hc : c < N) (h : preT n gi tr c) (hv : v < n) (hg : ∀ g, gi c = some g → v = g) (hf : ∀ d, d < N → (if d < c then tr d else gi d) = some v → ¬ (d ≠ c ∧ tog n d c)) : preT n gi (ub tr c (some v)) (c + 1) := by
  intro i hi
  by_cases e : i = c
  · subst e
    refine ⟨v, ub_s, hv, hg, fun j hj ht w => ?_⟩
    rw [ub_n (by omega)] at w
    exact hf j (by omega) (by rw [if_pos hj]; exact w) ⟨by omega, ht⟩
  · obtain ⟨u, h1, h2, h3, h4⟩ := h i (by omega)
    refine ⟨u, by rw [ub_n e]; exact h1, h2, h3, fun j hj ht w => ?_⟩
    rw [ub_n (by omega)] at w
    exact h4 j hj ht w
theorem preT_congr {n c : Nat} {gi tr tr' : Nat → Option Nat} (h : ∀ j, j < c → tr' j = tr j) (hp : preT n gi tr c) : preT n gi tr' c := fun i hi => by
  obtain ⟨u, h1, h2, h3, h4⟩ := hp i hi
  exact ⟨u, by rw [h i hi]; exact h1, h2, h3, fun j hj ht => by rw [h j (by omega)]; exact h4 j hj ht⟩
theorem cnP_N {n N : Nat} {gi tr : Nat → Option Nat} (h : preT n gi tr N) : cnP n N gi tr N = 1 := by
  have hL : ∀ j, j < N → (tr j).getD 0 < n := fun j q => by
    obtain ⟨v, h1, h2, -⟩ := h j q
    rw [h1]; exact h2
  have h1 := sumA_one (n := n) (M := N) (L := fun j => (tr j).getD 0) hL N (fun _ => 0) (Nat.le_refl N)
  rw [dI_t (fun j q1 q2 => absurd q2 (by omega))] at h1
  rw [← h1]
  refine sumA_congr N N _ (Nat.le_refl N) (fun j q1 q2 => absurd q2 (by omega)) (fun B hB => dI_iff ?_)
  constructor
  · rintro ⟨-, b⟩ j q
    rw [b j q]; rfl
  · intro w
    have hB : ∀ j, j < N → tr j = some (B j) := fun j q => by
      obtain ⟨v, h1, -⟩ := h j q
      rw [w j q, h1]; rfl
    refine ⟨⟨fun c v hc e => ?_, fun c d hc hd hne ht e => ?_⟩, hB⟩
    · obtain ⟨u, h1, -, h3, -⟩ := h c hc
      rw [hB c hc] at h1
      exact (Option.some.inj h1).trans (h3 v e)
    · rcases Nat.lt_trichotomy c d with q | q | q
      · obtain ⟨u, h1, -, -, h4⟩ := h d hd
        exact h4 c q ht (by rw [hB c hc, e, ← hB d hd]; exact h1)
      · exact hne q
      · obtain ⟨u, h1, -, -, h4⟩ := h c hc
        exact h4 d q (tog_sym ht) (by rw [hB d hd, ← e, ← hB c hc]; exact h1)
/-- the answers from the symbol s on -/
noncomputable def sfS (n N : Nat) (gi tr : Nat → Option Nat) (c s : Nat) : Nat := sumV n (fun v => if s ≤ v then cnP n N gi (ub tr c (some v)) (c + 1) else 0)
theorem sfS_0 {n N c s : Nat} {gi tr : Nat → Option Nat} (h : ∀ v, v < n → s ≤ v → cnP n N gi (ub tr c (some v)) (c + 1) = 0) : sfS n N gi tr c s = 0 := sumV_0 (fun v hv => by
  by_cases q : s ≤ v
  · rw [if_pos q]; exact h v hv q
  · rw [if_neg q])
theorem sfS_S {n N c s : Nat} {gi tr : Nat → Option Nat} (hs : s < n) : sfS n N gi tr c s = cnP n N gi (ub tr c (some s)) (c + 1) + sfS n N gi tr c (s + 1) := by
  unfold sfS
  have e : ∀ v, (if s ≤ v then cnP n N gi (ub tr c (some v)) (c + 1) else 0) = (if v = s then cnP n N gi (ub tr c (some s)) (c + 1) else 0) + (if s + 1 ≤ v then cnP n N gi (ub tr c (some v)) (c + 1) else 0) := fun v => by
    by_cases q : v = s
    · subst q; rw [if_pos (Nat.le_refl _), if_pos rfl, if_neg (by omega)]; omega
    · rw [if_neg q]
      by_cases q2 : s ≤ v
      · rw [if_pos q2, if_pos (by omega)]; omega
      · rw [if_neg q2, if_neg (by omega)]
  rw [sumV_congr (fun v _ => e v), sumV_add, sumV_1 (k := s) hs (fun v _ q => if_neg q), if_pos rfl]
theorem sfS_all {n N c : Nat} {gi tr : Nat → Option Nat} (hc : c < N) (s : Nat) (h : ∀ v, v < n → v < s → cnP n N gi (ub tr c (some v)) (c + 1) = 0) : sfS n N gi tr c s = cnP n N gi tr c := by
  rw [cnP_split hc]
  refine sumV_congr (fun v hv => ?_)
  by_cases q : s ≤ v
  · rw [if_pos q]
  · rw [if_neg q, h v hv (by omega)]
theorem ub_ub2 {b : Nat → Option Nat} {c : Nat} {o p : Option Nat} : ub (ub b c o) c p = ub b c p := by
  funext d
  by_cases e : d = c
  · subst e; rw [ub_s, ub_s]
  · rw [ub_n e, ub_n e, ub_n e]
theorem sfS_congr {n N c s : Nat} {gi tr tr' : Nat → Option Nat} (h : ∀ j, j < c → tr' j = tr j) : sfS n N gi tr' c s = sfS n N gi tr c s := sumV_congr (fun v _ => by
  rw [cnP_congr (tr := ub tr c (some v)) (tr' := ub tr' c (some v)) (fun j q => by
    by_cases e : j = c
    · subst e; rw [ub_s, ub_s]
    · rw [ub_n e, ub_n e]; exact h j (by omega))])
/-- the place before c: -1 before the first -/
def pdI (c : Nat) : Int32 := match c with
  | 0 => -1
  | k + 1 => nI k
theorem pdI_a (c : Nat) : nI c + (-1) = pdI c := by
  cases c with
  | zero => show nI 0 + (-1) = -1; decide
  | succ k => exact pk_m1 k
theorem pdI_b (c : Nat) : nI c + Int32.ofInt (-1) = pdI c := pdI_a c
theorem val_ub {n c : Nat} {tr : Nat → Option Nat} {o : Option Nat} (h : ∀ c v, tr c = some v → v < n) (ho : ∀ v, o = some v → v < n) : ∀ d v, ub tr c o d = some v → v < n := fun d v e => by
  by_cases q : d = c
  · subst q; rw [ub_s] at e; exact ho v e
  · rw [ub_n q] at e; exact h d v e
