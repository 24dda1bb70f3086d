/-! counting answers -/
noncomputable def dI (P : Prop) : Nat := @ite _ P (Classical.propDecidable P) 1 0
theorem dI_t {P : Prop} (h : P) : dI P = 1 := by unfold dI; exact if_pos h
theorem dI_f {P : Prop} (h : ¬ P) : dI P = 0 := by unfold dI; exact if_neg h
theorem dI_iff {P Q : Prop} (h : P ↔ Q) : dI P = dI Q := by rw [propext h]
def sumV : Nat → (Nat → Nat) → Nat
  | 0, _ => 0
  | k + 1, f => sumV k f + f k
theorem sumV_congr {f g : Nat → Nat} : ∀ {n : Nat}, (∀ v, v < n → f v = g v) → sumV n f = sumV n g
  | 0, _ => rfl
  | n + 1, h => by
    show sumV n f + f n = sumV n g + g n
    rw [sumV_congr (fun v q => h v (by omega)), h n (by omega)]
theorem sumV_add {f g : Nat → Nat} : ∀ (n : Nat), sumV n (fun v => f v + g v) = sumV n f + sumV n g
  | 0 => rfl
  | n + 1 => by
    show sumV n (fun v => f v + g v) + (f n + g n) = (sumV n f + f n) + (sumV n g + g n)
    rw [sumV_add n]; omega
theorem sumV_0 {f : Nat → Nat} {n : Nat} (h : ∀ v, v < n → f v = 0) : sumV n f = 0 := by
  rw [sumV_congr (g := fun _ => 0) h]
  clear h
  induction n with
  | zero => rfl
  | succ n ih => show sumV n _ + 0 = 0; rw [ih]
theorem sumV_1 {f : Nat → Nat} {n k : Nat} (hk : k < n) (h : ∀ v, v < n → v ≠ k → f v = 0) : sumV n f = f k := by
  induction n with
  | zero => omega
  | succ n ih =>
    show sumV n f + f n = f k
    by_cases e : k = n
    · subst e
      rw [sumV_0 (fun v q => h v (by omega) (by omega))]; omega
    · rw [ih (by omega) (fun v q => h v (by omega)), h n (by omega) (fun w => e w.symm)]; omega
theorem sumV_swap {f : Nat → Nat → Nat} (n : Nat) : ∀ (m : Nat), sumV n (fun a => sumV m (fun b => f a b)) = sumV m (fun b => sumV n (fun a => f a b))
  | 0 => sumV_0 (fun _ _ => rfl)
  | m + 1 => by
    show sumV n (fun a => sumV m (fun b => f a b) + f a m) = sumV m (fun b => sumV n (fun a => f a b)) + sumV n (fun a => f a m)
    rw [sumV_add, sumV_swap n m]
theorem sumV_le {f : Nat → Nat} {a b : Nat} (h : a ≤ b) : sumV a f ≤ sumV b f := by
  induction b with
  | zero => rw [show a = 0 by omega]; exact Nat.le_refl _
  | succ b ih =>
    by_cases e : a = b + 1
    · rw [e]; exact Nat.le_refl _
    · have := ih (by omega)
      show sumV a f ≤ sumV b f + f b
      omega
def upA (A : Nat → Nat) (i v : Nat) : Nat → Nat := fun j => if j = i then v else A j
/-- the sum of w over all ways to give the cells below i symbols below n -/
def sumA (n : Nat) (w : (Nat → Nat) → Nat) : Nat → (Nat → Nat) → Nat
  | 0, A => w A
  | i + 1, A => sumV n (fun v => sumA n w i (upA A i v))
theorem sumA_congr {n : Nat} {w w' : (Nat → Nat) → Nat} (N : Nat) : ∀ (i : Nat) (A : Nat → Nat), i ≤ N → (∀ j, i ≤ j → j < N → A j < n) → (∀ B, (∀ j, j < N → B j < n) → w B = w' B) → sumA n w i A = sumA n w' i A
  | 0, A, _, hA, h => h A (fun j q => hA j (Nat.zero_le j) q)
  | i + 1, A, hi, hA, h => sumV_congr (fun v q => sumA_congr N i (upA A i v) (by omega) (fun j q1 q2 => by
      unfold upA
      by_cases e : j = i
      · rw [if_pos e]; exact q
      · rw [if_neg e]; exact hA j (by omega) q2) h)
theorem sumA_sum {n m : Nat} {w : Nat → (Nat → Nat) → Nat} : ∀ (i : Nat) (A : Nat → Nat), sumA n (fun B => sumV m (fun v => w v B)) i A = sumV m (fun v => sumA n (w v) i A)
  | 0, _ => rfl
  | i + 1, A => by
    show sumV n (fun u => sumA n _ i (upA A i u)) = sumV m (fun v => sumV n (fun u => sumA n (w v) i (upA A i u)))
    rw [sumV_congr (fun u _ => sumA_sum i (upA A i u))]
    exact sumV_swap n m
theorem sumA_0 {n : Nat} {w : (Nat → Nat) → Nat} (h : ∀ B, w B = 0) : ∀ (i : Nat) (A : Nat → Nat), sumA n w i A = 0
  | 0, A => h A
  | i + 1, A => sumV_0 (fun v _ => sumA_0 h i (upA A i v))
theorem sumA_one {n M : Nat} {L : Nat → Nat} (hL : ∀ j, j < M → L j < n) : ∀ (i : Nat) (A : Nat → Nat), i ≤ M → sumA n (fun B => dI (∀ j, j < M → B j = L j)) i A = dI (∀ j, i ≤ j → j < M → A j = L j)
  | 0, A, _ => dI_iff ⟨fun h j _ q => h j q, fun h j q => h j (Nat.zero_le j) q⟩
  | i + 1, A, hi => by
    show sumV n (fun v => sumA n _ i (upA A i v)) = _
    rw [sumV_congr (fun v _ => sumA_one hL i (upA A i v) (by omega)), sumV_1 (k := L i) (hL i (by omega))]
    · refine dI_iff ⟨fun h j q1 q2 => ?_, fun h j q1 q2 => ?_⟩
      · have := h j (by omega) q2
        unfold upA at this
        rw [if_neg (by omega)] at this
        exact this
      · unfold upA
        by_cases e : j = i
        · rw [if_pos e, e]
        · rw [if_neg e]; exact h j (by omega) q2
    · intro v _ hv
      refine dI_f (fun h => hv ?_)
      have := h i (Nat.le_refl i) (by omega)
      unfold upA at this
      rw [if_pos rfl] at this
      exact this
/-- A is an answer of the givens b -/
def ansP (n N : Nat) (b : Nat → Option Nat) (A : Nat → Nat) : Prop := (∀ c v, c < N → b c = some v → A c = v) ∧ ∀ c d, c < N → d < N → c ≠ d → tog n c d → A c ≠ A d
/-- how many answers of b have Q -/
noncomputable def cntQ (n N : Nat) (b : Nat → Option Nat) (Q : (Nat → Nat) → Prop) : Nat := sumA n (fun A => dI (ansP n N b A ∧ Q A)) N (fun _ => 0)
noncomputable def cntS (n N : Nat) (b : Nat → Option Nat) : Nat := cntQ n N b (fun _ => True)
theorem cntQ_congr {n N : Nat} {b b' : Nat → Option Nat} {Q Q' : (Nat → Nat) → Prop} (h : ∀ A, (∀ j, j < N → A j < n) → (ansP n N b A ∧ Q A ↔ ansP n N b' A ∧ Q' A)) : cntQ n N b Q = cntQ n N b' Q' :=
  sumA_congr N N _ (Nat.le_refl N) (fun j q1 q2 => absurd q2 (by omega)) (fun B hB => dI_iff (h B hB))
theorem cntQ_split {n N : Nat} {b : Nat → Option Nat} {Q : (Nat → Nat) → Prop} {c : Nat} (hc : c < N) : cntQ n N b Q = sumV n (fun v => cntQ n N b (fun A => Q A ∧ A c = v)) := by
  unfold cntQ
  rw [← sumA_sum]
  refine sumA_congr N N _ (Nat.le_refl N) (fun j q1 q2 => absurd q2 (by omega)) (fun B hB => ?_)
  rw [sumV_1 (k := B c) (hB c hc) (fun v _ hv => dI_f (fun h => hv h.2.2.symm))]
  exact dI_iff ⟨fun h => ⟨h.1, h.2, rfl⟩, fun h => ⟨h.1, h.2.1⟩⟩
theorem cntQ_0 {n N : Nat} {b : Nat → Option Nat} {Q : (Nat → Nat) → Prop} (h : ∀ A, ¬ (ansP n N b A ∧ Q A)) : cntQ n N b Q = 0 := sumA_0 (fun B => dI_f (h B)) _ _
theorem cntS_split {n N : Nat} {b : Nat → Option Nat} {c : Nat} (hc : c < N) (h0 : b c = none) : cntS n N b = sumV n (fun v => cntS n N (ub b c (some v)) * dI (mayP n N b c v)) := by
  unfold cntS
  rw [cntQ_split hc]
  refine sumV_congr (fun v hv => ?_)
  by_cases hm : mayP n N b c v
  · rw [dI_t hm, Nat.mul_one]
    refine cntQ_congr (fun A _ => ?_)
    constructor
    · rintro ⟨⟨h1, h2⟩, -, h3⟩
      refine ⟨⟨fun d u hd e => ?_, h2⟩, trivial⟩
      by_cases ed : d = c
      · subst ed; rw [ub_s] at e; rw [h3]; exact Option.some.inj e
      · rw [ub_n ed] at e; exact h1 d u hd e
    · rintro ⟨⟨h1, h2⟩, -⟩
      refine ⟨⟨fun d u hd e => h1 d u hd ?_, h2⟩, trivial, h1 c v hc ub_s⟩
      rw [ub_n (fun w => by rw [w, h0] at e; cases e)]; exact e
  · rw [dI_f hm, Nat.mul_zero]
    refine cntQ_0 (fun A hA => hm ⟨hv, fun d hd ht hb => ?_⟩)
    obtain ⟨⟨h1, h2⟩, -, h3⟩ := hA
    have hdc : c ≠ d := fun w => by rw [← w, h0] at hb; cases hb
    exact h2 c d hc hd hdc ht (by rw [h3, h1 d v hd hb])
theorem cntS_full {n N : Nat} {b : Nat → Option Nat} (hok : okB n N b) (hf : ∀ c, c < N → b c ≠ none) : cntS n N b = 1 := by
  have hL : ∀ j, j < N → (b j).getD 0 < n := fun j q => by
    cases e : b j with
    | none => exact absurd e (hf j q)
    | some v => exact hok.1 j v e
  have h1 := sumA_one (n := n) (M := N) (L := fun j => (b j).getD 0) hL N (fun _ => 0) (Nat.le_refl N)
  rw [dI_t (fun j q1 q2 => absurd q2 (by omega))] at h1
  rw [← h1]
  refine sumA_congr N N _ (Nat.le_refl N) (fun j q1 q2 => absurd q2 (by omega)) (fun B hB => dI_iff ?_)
  constructor
  · rintro ⟨⟨h1, h2⟩, -⟩ j q
    cases e : b j with
    | none => exact absurd e (hf j q)
    | some v => rw [h1 j v q e]; rfl
  · intro h
    refine ⟨⟨fun c v hc e => by rw [h c hc, e]; rfl, fun c d hc hd hne ht e => ?_⟩, trivial⟩
    rw [h c hc, h d hd] at e
    cases e1 : b c with
    | none => exact hf c hc e1
    | some v =>
      cases e2 : b d with
      | none => exact hf d hd e2
      | some u =>
        rw [e1, e2] at e
        have : v = u := e
        subst this
        exact hok.2 c d v hc hd hne ht e1 e2
theorem okB_put {n N : Nat} {b : Nat → Option Nat} {c v : Nat} (hok : okB n N b) (hm : mayP n N b c v) : okB n N (ub b c (some v)) := by
  refine ⟨fun d u e => ?_, fun d e' u hd he hne ht e1 e2 => ?_⟩
  · by_cases q : d = c
    · subst q; rw [ub_s] at e; cases e; exact hm.1
    · rw [ub_n q] at e; exact hok.1 d u e
  · by_cases q1 : d = c
    · subst q1
      rw [ub_s] at e1; cases e1
      rw [ub_n (fun w => hne w.symm)] at e2
      exact hm.2 e' he ht e2
    · rw [ub_n q1] at e1
      by_cases q2 : e' = c
      · subst q2
        rw [ub_s] at e2; cases e2
        exact hm.2 d hd (tog_sym ht) e1
      · rw [ub_n q2] at e2
        exact hok.2 d e' u hd he hne ht e1 e2
