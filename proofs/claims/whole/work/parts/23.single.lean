/-! singles: what they make known -/
section
variable {X : ww_X} {kc ks pc : Nat} {lv : List (Nat × Value)} {st : List Value} {ws ws' : va_W}
theorem r_perm (h : ws.Perm ws') (k : RW X kc ks pc lv st ws') : RW X kc ks pc lv st ws := by
  obtain ⟨g, p, l, e, R, s, m, args, below, meth, c, A, H0, nL, Q⟩ := X
  intro H locs ls hP hD hS hl
  have hnd : (ws.map Prod.fst).Nodup := List.pairwise_iff_getElem.mpr (fun i j hi hj hij w => by
    rw [List.length_map] at hi hj
    rw [List.getElem_map, List.getElem_map] at w
    have := hD.1 i j _ _ (List.getElem?_eq_getElem hi) (List.getElem?_eq_getElem hj) w
    omega)
  have hnd2 : (ws'.map Prod.fst).Nodup := (h.map Prod.fst).nodup_iff.mp hnd
  refine k H locs ls (fun i q hi => ?_) ⟨fun i j p q hi hj e => ?_, fun i q hi => ?_⟩ hS hl
  · obtain ⟨j, hj⟩ := List.getElem?_of_mem (h.mem_iff.mpr (List.mem_of_getElem? hi))
    exact hP j q hj
  · have h2 := List.pairwise_iff_getElem.mp hnd2
    obtain ⟨li, ei⟩ := List.getElem?_eq_some_iff.mp hi
    obtain ⟨lj, ej⟩ := List.getElem?_eq_some_iff.mp hj
    rcases Nat.lt_trichotomy i j with q1 | q1 | q1
    · exact absurd (by rw [List.getElem_map, List.getElem_map, ei, ej]; exact e) (h2 i j (by rw [List.length_map]; exact li) (by rw [List.length_map]; exact lj) q1)
    · exact q1
    · exact absurd (by rw [List.getElem_map, List.getElem_map, ei, ej]; exact e.symm) (h2 j i (by rw [List.length_map]; exact lj) (by rw [List.length_map]; exact li) q1)
  · obtain ⟨j, hj⟩ := List.getElem?_of_mem (h.mem_iff.mpr (List.mem_of_getElem? hi))
    exact hD.2 j q hj
theorem ww_mid {a p1 p2 : va_W} {x : Nat × va_E} : (a ++ (p1 ++ x :: p2)).Perm ((a ++ [x]) ++ (p1 ++ p2)) := by
  rw [List.append_assoc]
  exact List.Perm.append_left a (List.perm_middle)
end
/-- the number of a cell's row, column, box -/
def uk (n k c : Nat) : Nat := if k = 0 then c / n else if k = 1 then c % n else bx n c
def unF (n u j : Nat) : Nat := if u < n then n * u + j else if u < 2 * n then n * j + (u - n) else ((u - 2 * n) / 2 * 2 + j / (n / 2)) * n + ((u - 2 * n) % 2 * (n / 2) + j % (n / 2))
theorem unF_4 : ∀ k, k < 3 → ∀ t, t < 4 → ∀ j, j < 4 → unF 4 (k * 4 + t) j < 16 ∧ uk 4 k (unF 4 (k * 4 + t) j) = t ∧ ∀ i, i < 4 → unF 4 (k * 4 + t) i = unF 4 (k * 4 + t) j → i = j := by decide +kernel
theorem unF_6 : ∀ k, k < 3 → ∀ t, t < 6 → ∀ j, j < 6 → unF 6 (k * 6 + t) j < 36 ∧ uk 6 k (unF 6 (k * 6 + t) j) = t ∧ ∀ i, i < 6 → unF 6 (k * 6 + t) i = unF 6 (k * 6 + t) j → i = j := by decide +kernel
theorem unC_4 : ∀ k, k < 3 → ∀ d, d < 16 → uk 4 k d < 4 ∧ ∃ j, j < 4 ∧ unF 4 (k * 4 + uk 4 k d) j = d := by decide +kernel
theorem unC_6 : ∀ k, k < 3 → ∀ d, d < 36 → uk 6 k d < 6 ∧ ∃ j, j < 6 ∧ unF 6 (k * 6 + uk 6 k d) j = d := by decide +kernel
theorem unF_ok {n N k t j : Nat} (hn : (n = 4 ∧ N = 16) ∨ (n = 6 ∧ N = 36)) (hk : k < 3) (ht : t < n) (hj : j < n) : unF n (k * n + t) j < N ∧ uk n k (unF n (k * n + t) j) = t ∧ ∀ i, i < n → unF n (k * n + t) i = unF n (k * n + t) j → i = j := by
  rcases hn with ⟨rfl, rfl⟩ | ⟨rfl, rfl⟩
  · exact unF_4 k hk t ht j hj
  · exact unF_6 k hk t ht j hj
theorem unC_ok {n N k d : Nat} (hn : (n = 4 ∧ N = 16) ∨ (n = 6 ∧ N = 36)) (hk : k < 3) (hd : d < N) : uk n k d < n ∧ ∃ j, j < n ∧ unF n (k * n + uk n k d) j = d := by
  rcases hn with ⟨rfl, rfl⟩ | ⟨rfl, rfl⟩
  · exact unC_4 k hk d hd
  · exact unC_6 k hk d hd
theorem unit_kt {n N u : Nat} (hn : (n = 4 ∧ N = 16) ∨ (n = 6 ∧ N = 36)) (hu : u < 3 * n) : ∃ k t, k < 3 ∧ t < n ∧ u = k * n + t := by
  refine ⟨u / n, u % n, ?_, md_lt hn, ?_⟩
  · rcases hn with ⟨rfl, rfl⟩ | ⟨rfl, rfl⟩ <;> omega
  · rw [Nat.mul_comm]; exact (Nat.div_add_mod u n).symm
theorem uk_tog {n k c d : Nat} (hk : k < 3) (h : uk n k c = uk n k d) : tog n c d := by
  unfold uk at h
  rcases (show k = 0 ∨ k = 1 ∨ k = 2 by omega) with rfl | rfl | rfl
  · exact Or.inl h
  · exact Or.inr (Or.inl h)
  · exact Or.inr (Or.inr h)
/-- what is known is as A has it -/
def subA (N : Nat) (b : Nat → Option Nat) (A : Nat → Nat) : Prop := ∀ c v, c < N → b c = some v → v = A c
/-- A has a symbol in each cell, no two that see each other alike -/
def fulA (n N : Nat) (A : Nat → Nat) : Prop := (∀ c, c < N → A c < n) ∧ ∀ c d, c < N → d < N → c ≠ d → tog n c d → A c ≠ A d
theorem may_A {n N c : Nat} {b : Nat → Option Nat} {A : Nat → Nat} (hA : fulA n N A) (hb : subA N b A) (hc : c < N) (h0 : b c = none) : mayP n N b c (A c) := by
  refine ⟨hA.1 c hc, fun d hd ht e => ?_⟩
  have hdc : c ≠ d := fun w => by rw [← w, h0] at e; cases e
  exact hA.2 c d hc hd hdc ht (hb d _ hd e)
def leB (N : Nat) (b b' : Nat → Option Nat) : Prop := ∀ c, c < N → b c ≠ none → b' c ≠ none
theorem may_mono {n N c v : Nat} {b b' : Nat → Option Nat} {A : Nat → Nat} (h1 : subA N b A) (h2 : subA N b' A) (hle : leB N b b') (hm : mayP n N b' c v) : mayP n N b c v := by
  refine ⟨hm.1, fun d hd ht e => ?_⟩
  have h3 := h1 d v hd e
  cases e2 : b' d with
  | none => exact hle d hd (by rw [e]; simp) e2
  | some w =>
    have h4 := h2 d w hd e2
    exact hm.2 d hd ht (by rw [e2, h4, ← h3])
/-- a single of the kinds that the document names tells the cell c -/
def appl (n N : Nat) (A : Nat → Nat) (b : Nat → Option Nat) (c : Nat) : Prop := c < N ∧ b c = none ∧ ((∀ u, mayP n N b c u → u = A c) ∨ ∃ k, k < 3 ∧ ∀ d, d < N → uk n k d = uk n k c → b d = none → mayP n N b d (A c) → d = c)
def closedB (n N : Nat) (A : Nat → Nat) (b : Nat → Option Nat) : Prop := ∀ c, ¬ appl n N A b c
def cloP (n N : Nat) (A : Nat → Nat) (gv : Nat → Option Nat) (c : Nat) : Prop := ∀ b, subA N b A → leB N gv b → closedB n N A b → b c ≠ none
def invK (n N : Nat) (A : Nat → Nat) (gv b : Nat → Option Nat) : Prop := subA N b A ∧ leB N gv b ∧ ∀ c, c < N → b c ≠ none → cloP n N A gv c
theorem invK_0 {n N : Nat} {A : Nat → Nat} {gv : Nat → Option Nat} (h : subA N gv A) : invK n N A gv gv := ⟨h, fun _ _ q => q, fun c hc q b _ hle _ => hle c hc q⟩
theorem clo_of {n N c : Nat} {A : Nat → Nat} {gv b : Nat → Option Nat} (hi : invK n N A gv b) (ha : appl n N A b c) : cloP n N A gv c := by
  intro b' hs hle hcl e
  have hle2 : leB N b b' := fun d hd q => hi.2.2 d hd q b' hs hle hcl
  obtain ⟨hc, h0, h⟩ := ha
  refine hcl c ⟨hc, e, ?_⟩
  rcases h with h | ⟨k, hk, h⟩
  · exact Or.inl (fun u q => h u (may_mono hi.1 hs hle2 q))
  · exact Or.inr ⟨k, hk, fun d hd hu h0d hm => h d hd hu (Classical.byContradiction (fun w => hle2 d hd w h0d)) (may_mono hi.1 hs hle2 hm)⟩
theorem invK_put {n N c : Nat} {A : Nat → Nat} {gv b : Nat → Option Nat} (hi : invK n N A gv b) (hcl : cloP n N A gv c) : invK n N A gv (ub b c (some (A c))) := by
  refine ⟨fun d v hd e => ?_, fun d hd q => ?_, fun d hd q => ?_⟩
  · by_cases w : d = c
    · subst w; rw [ub_s] at e; exact (Option.some.inj e).symm
    · rw [ub_n w] at e; exact hi.1 d v hd e
  · by_cases w : d = c
    · subst w; rw [ub_s]; simp
    · rw [ub_n w]; exact hi.2.1 d hd q
  · by_cases w : d = c
    · subst w; exact hcl
    · rw [ub_n w] at q; exact hi.2.2 d hd q
noncomputable def leftN (n N : Nat) (A : Nat → Nat) (gv : Nat → Option Nat) : Nat := cn (fun c => ¬ cloP n N A gv c) N
theorem left_end {n N : Nat} {A : Nat → Nat} {gv b : Nat → Option Nat} (hi : invK n N A gv b) (hc : closedB n N A b) : cn (fun c => b c = none) N = leftN n N A gv := by
  refine cn_congr (fun c hcN => ⟨fun e w => w b hi.1 hi.2.1 hc e, fun w => Classical.byContradiction (fun q => w (hi.2.2 c hcN q))⟩)
theorem leB_put {N c v : Nat} {b : Nat → Option Nat} : leB N b (ub b c (some v)) := fun d _ q => by
  by_cases w : d = c
  · subst w; rw [ub_s]; simp
  · rw [ub_n w]; exact q
theorem leB_tr {N : Nat} {a b c : Nat → Option Nat} (h1 : leB N a b) (h2 : leB N b c) : leB N a c := fun d hd q => h2 d hd (h1 d hd q)
theorem one_b0 : ∀ m, m < 64 → ∀ t, t < 6 → ∀ a, a < 6 → (pcb m 6 = 1 ∧ m.testBit t = true ∧ m.testBit a = true) → t = a := by decide +kernel
theorem one_b (m : Nat) (hm : m < 64) (h : pcb m 6 = 1) (t : Nat) (ht : t < 6) (a : Nat) (ha : a < 6) (h1 : m.testBit t = true) (h2 : m.testBit a = true) : t = a := one_b0 m hm t ht a ha ⟨h, h1, h2⟩
theorem one_m : ∀ m, m < 64 → ∀ a, a < 6 → m.testBit a = true → (∀ u, u < 6 → m.testBit u = true → u = a) → pcb m 6 = 1 := by decide +kernel
theorem nak_1 {n N c : Nat} {b : Nat → Option Nat} {A : Nat → Nat} (hn : (n = 4 ∧ N = 16) ∨ (n = 6 ∧ N = 36)) (hA : fulA n N A) (hb : subA N b A) (hc : c < N) (h0 : b c = none) (h : pcb (mkN (mayP n N b c)) 6 = 1) : (∀ u, mayP n N b c u → u = A c) ∧ 0 < mkN (mayP n N b c) ∧ ntz (mkN (mayP n N b c)) = A c := by
  have hm := may_A hA hb hc h0
  have ha : A c < 6 := by have := hA.1 c hc; omega
  have hta := (mkN_tb _ ha).mpr hm
  have h1 : ∀ u, mayP n N b c u → u = A c := fun u q => one_b _ (mkN_lt _) h u (by have := q.1; omega) (A c) ha ((mkN_tb _ (by have := q.1; omega)).mpr q) hta
  have h2 : 0 < mkN (mayP n N b c) := Nat.pos_of_ne_zero (fun w => by rw [w] at h; exact absurd h (by decide))
  obtain ⟨q1, q2, -⟩ := ntz_tb _ (mkN_lt _) h2
  exact ⟨h1, h2, h1 _ ((mkN_tb _ q1).mp q2)⟩
theorem nak_n {n N c : Nat} {b : Nat → Option Nat} {A : Nat → Nat} (hn : (n = 4 ∧ N = 16) ∨ (n = 6 ∧ N = 36)) (hA : fulA n N A) (hb : subA N b A) (hc : c < N) (h0 : b c = none) (h : ¬ pcb (mkN (mayP n N b c)) 6 = 1) : ¬ ∀ u, mayP n N b c u → u = A c := fun w => by
  have hm := may_A hA hb hc h0
  have ha : A c < 6 := by have := hA.1 c hc; omega
  exact h (one_m _ (mkN_lt _) (A c) ha ((mkN_tb _ ha).mpr hm) (fun u hu q => w u ((mkN_tb _ hu).mp q)))
/-- the empty cells of a unit that may have v -/
def unE (n N : Nat) (b : Nat → Option Nat) (uf : Nat → Nat) (j v : Nat) : Prop := b (uf j) = none ∧ mayP n N b (uf j) v
def loneP (n N : Nat) (b : Nat → Option Nat) (uf : Nat → Nat) (i v : Nat) : Prop := (∃ j, j < i ∧ unE n N b uf j v) ∧ ¬ ∃ j1 j2, j1 < j2 ∧ j2 < i ∧ unE n N b uf j1 v ∧ unE n N b uf j2 v
def onceP (n N : Nat) (b : Nat → Option Nat) (uf : Nat → Nat) (i v : Nat) : Prop := ∃ j, j < i ∧ unE n N b uf j v
def twiceP (n N : Nat) (b : Nat → Option Nat) (uf : Nat → Nat) (i v : Nat) : Prop := ∃ j1 j2, j1 < j2 ∧ j2 < i ∧ unE n N b uf j1 v ∧ unE n N b uf j2 v
theorem mkN_or {P Q R : Nat → Prop} (h : ∀ i, R i ↔ P i ∨ Q i) : nI (mkN P) ||| nI (mkN Q) = nI (mkN R) := by
  rw [nx_or]
  refine congrArg nI (mkN_of (or_lt64 (mkN_lt _) (mkN_lt _)) (fun i hi => ?_))
  rw [Nat.testBit_or, Bool.or_eq_true, mkN_tb P hi, mkN_tb Q hi, h i]
theorem mkN_and {P Q R : Nat → Prop} (h : ∀ i, R i ↔ P i ∧ Q i) : nI (mkN P) &&& nI (mkN Q) = nI (mkN R) := by
  rw [nx_and]
  refine congrArg nI (mkN_of (Nat.lt_of_le_of_lt Nat.and_le_left (mkN_lt _)) (fun i hi => ?_))
  rw [Nat.testBit_and, Bool.and_eq_true, mkN_tb P hi, mkN_tb Q hi, h i]
theorem mkN_0 {P : Nat → Prop} (h : ∀ v, ¬ P v) : mkN P = 0 := (mkN_of (m := 0) (by omega) (fun i _ => by simp [h i])).symm
theorem cplA : ∀ m, m < 64 → nI m ^^^ (-1) = nI (4294967232 + (63 - m)) := by decide +kernel
theorem cplB : ∀ o, o < 64 → ∀ m, m < 64 → ∀ i, i < 6 → ((o &&& (4294967232 + (63 - m))).testBit i = true ↔ o.testBit i = true ∧ m.testBit i = false) := by
  intro o ho m hm i hi
  rw [Nat.testBit_and, Bool.and_eq_true]
  have h : ∀ m, m < 64 → ∀ i, i < 6 → ((4294967232 + (63 - m)).testBit i = true ↔ m.testBit i = false) := by decide +kernel
  rw [h m hm i hi]
theorem lone_m {n N : Nat} {b : Nat → Option Nat} {uf : Nat → Nat} {i : Nat} : nI (mkN (onceP n N b uf i)) &&& (nI (mkN (twiceP n N b uf i)) ^^^ (-1)) = nI (mkN (loneP n N b uf i)) := by
  rw [cplA _ (mkN_lt _), nx_and]
  refine congrArg nI (mkN_of (Nat.lt_of_le_of_lt Nat.and_le_left (mkN_lt _)) (fun v hv => ?_))
  rw [cplB _ (mkN_lt _) _ (mkN_lt _) v hv, mkN_tb _ hv]
  refine and_congr Iff.rfl ?_
  cases e : (mkN (twiceP n N b uf i)).testBit v
  · exact ⟨fun _ w => (by rw [(mkN_tb (twiceP n N b uf i) hv).mpr w] at e; cases e), fun _ => rfl⟩
  · exact ⟨fun w => (by cases w), fun w => absurd ((mkN_tb _ hv).mp e) w⟩
theorem once_S {n N i : Nat} {b : Nat → Option Nat} {uf : Nat → Nat} (h0 : b (uf i) = none) : ∀ v, onceP n N b uf (i + 1) v ↔ onceP n N b uf i v ∨ mayP n N b (uf i) v := by
  intro v
  constructor
  · rintro ⟨j, q1, q2⟩
    by_cases e : j = i
    · subst e; exact Or.inr q2.2
    · exact Or.inl ⟨j, by omega, q2⟩
  · rintro (⟨j, q1, q2⟩ | q)
    · exact ⟨j, by omega, q2⟩
    · exact ⟨i, by omega, h0, q⟩
theorem twice_S {n N i : Nat} {b : Nat → Option Nat} {uf : Nat → Nat} (h0 : b (uf i) = none) : ∀ v, twiceP n N b uf (i + 1) v ↔ twiceP n N b uf i v ∨ (onceP n N b uf i v ∧ mayP n N b (uf i) v) := by
  intro v
  constructor
  · rintro ⟨j1, j2, q1, q2, q3, q4⟩
    by_cases e : j2 = i
    · subst e; exact Or.inr ⟨⟨j1, q1, q3⟩, q4.2⟩
    · exact Or.inl ⟨j1, j2, q1, by omega, q3, q4⟩
  · rintro (⟨j1, j2, q1, q2, q3, q4⟩ | ⟨⟨j, q1, q2⟩, q⟩)
    · exact ⟨j1, j2, q1, by omega, q3, q4⟩
    · exact ⟨j, i, q1, by omega, q2, h0, q⟩
theorem once_N {n N i : Nat} {b : Nat → Option Nat} {uf : Nat → Nat} (h0 : b (uf i) ≠ none) : mkN (onceP n N b uf i) = mkN (onceP n N b uf (i + 1)) := mkN_ext (fun v _ => by
  constructor
  · rintro ⟨j, q1, q2⟩; exact ⟨j, by omega, q2⟩
  · rintro ⟨j, q1, q2⟩
    by_cases e : j = i
    · subst e; exact absurd q2.1 h0
    · exact ⟨j, by omega, q2⟩)
theorem twice_N {n N i : Nat} {b : Nat → Option Nat} {uf : Nat → Nat} (h0 : b (uf i) ≠ none) : mkN (twiceP n N b uf i) = mkN (twiceP n N b uf (i + 1)) := mkN_ext (fun v _ => by
  constructor
  · rintro ⟨j1, j2, q1, q2, q3⟩; exact ⟨j1, j2, q1, by omega, q3⟩
  · rintro ⟨j1, j2, q1, q2, q3, q4⟩
    by_cases e : j2 = i
    · subst e; exact absurd q4.1 h0
    · exact ⟨j1, j2, q1, by omega, q3, q4⟩)
/-- n different numbers below n are all of them -/
theorem surj : ∀ (n : Nat) (f : Nat → Nat), (∀ i, i < n → f i < n) → (∀ i j, i < n → j < n → f i = f j → i = j) → ∀ v, v < n → ∃ i, i < n ∧ f i = v
  | 0, _, _, _, v, hv => absurd hv (Nat.not_lt_zero v)
  | n + 1, f, h1, h2, v, hv => by
    by_cases e : f n = v
    · exact ⟨n, by omega, e⟩
    · -- move the value n to the place of f n
      have g1 : ∀ i, i < n → (if f i = n then f n else f i) < n := fun i hi => by
        have hni : f i ≠ f n := fun w => by have := h2 i n (by omega) (by omega) w; omega
        have a1 := h1 i (by omega)
        have a2 := h1 n (by omega)
        by_cases w : f i = n
        · rw [if_pos w]; omega
        · rw [if_neg w]; omega
      have g2 : ∀ i j, i < n → j < n → (if f i = n then f n else f i) = (if f j = n then f n else f j) → i = j := fun i j hi hj w => by
        have a1 : f i ≠ f n := fun w => by have := h2 i n (by omega) (by omega) w; omega
        have a2 : f j ≠ f n := fun w => by have := h2 j n (by omega) (by omega) w; omega
        by_cases w1 : f i = n
        · by_cases w2 : f j = n
          · exact h2 i j (by omega) (by omega) (w1.trans w2.symm)
          · rw [if_pos w1, if_neg w2] at w; exact absurd w.symm a2
        · by_cases w2 : f j = n
          · rw [if_neg w1, if_pos w2] at w; exact absurd w a1
          · rw [if_neg w1, if_neg w2] at w; exact h2 i j (by omega) (by omega) w
      by_cases hvn : v = n
      · have hfn : f n < n := by have := h1 n (by omega); omega
        obtain ⟨i, q1, q2⟩ := surj n _ g1 g2 (f n) hfn
        by_cases w : f i = n
        · exact ⟨i, by omega, by rw [w, hvn]⟩
        · rw [if_neg w] at q2
          have := h2 i n (by omega) (by omega) q2
          omega
      · obtain ⟨i, q1, q2⟩ := surj n _ g1 g2 v (by omega)
        by_cases w : f i = n
        · rw [if_pos w] at q2; exact absurd q2 e
        · rw [if_neg w] at q2; exact ⟨i, by omega, q2⟩
/-- uf lists the cells of a unit of the kind k -/
def isUn (n N k : Nat) (uf : Nat → Nat) : Prop := k < 3 ∧ (∀ j, j < n → uf j < N) ∧ (∀ i j, i < n → j < n → uf i = uf j → i = j) ∧ (∀ i j, i < n → j < n → uk n k (uf i) = uk n k (uf j)) ∧ ∀ d j, d < N → j < n → uk n k d = uk n k (uf j) → ∃ i, i < n ∧ uf i = d
theorem isUn_F {n N k t : Nat} (hn : (n = 4 ∧ N = 16) ∨ (n = 6 ∧ N = 36)) (hk : k < 3) (ht : t < n) : isUn n N k (unF n (k * n + t)) := by
  refine ⟨hk, fun j q => (unF_ok hn hk ht q).1, fun i j q1 q2 e => (unF_ok hn hk ht q2).2.2 i q1 e, fun i j q1 q2 => by rw [(unF_ok hn hk ht q1).2.1, (unF_ok hn hk ht q2).2.1], fun d j hd q e => ?_⟩
  rw [(unF_ok hn hk ht q).2.1] at e
  obtain ⟨h1, i, h2, h3⟩ := unC_ok hn hk hd
  rw [e] at h3
  exact ⟨i, h2, h3⟩
theorem hid_A {n N k j v : Nat} {b : Nat → Option Nat} {A : Nat → Nat} {uf : Nat → Nat} (hA : fulA n N A) (hb : subA N b A) (hu : isUn n N k uf) (hj : j < n) (he : unE n N b uf j v) (hl : loneP n N b uf n v) : A (uf j) = v ∧ appl n N A b (uf j) := by
  obtain ⟨hk, u1, u2, u3, u4⟩ := hu
  have hone : ∀ i, i < n → unE n N b uf i v → i = j := fun i hi q => by
    rcases Nat.lt_trichotomy i j with w | w | w
    · exact absurd ⟨i, j, w, hj, q, he⟩ hl.2
    · exact w
    · exact absurd ⟨j, i, w, hi, he, q⟩ hl.2
  obtain ⟨i, hi, hAi⟩ := surj n (fun i => A (uf i)) (fun i hi => hA.1 _ (u1 i hi)) (fun i i2 hi hi2 e => Classical.byContradiction (fun w => hA.2 _ _ (u1 i hi) (u1 i2 hi2) (fun q => w (u2 i i2 hi hi2 q)) (uk_tog hk (u3 i i2 hi hi2)) e)) v he.2.1
  have hempty : b (uf i) = none := by
    cases e : b (uf i) with
    | none => rfl
    | some w =>
      have h1 := hb _ w (u1 i hi) e
      have h2 : w = v := h1.trans hAi
      exact absurd (by rw [e, h2]) (he.2.2 (uf i) (u1 i hi) (uk_tog hk (u3 j i hj hi)))
  have hij : i = j := hone i hi ⟨hempty, by
    have := may_A hA hb (u1 i hi) hempty
    rw [show A (uf i) = v from hAi] at this
    exact this⟩
  have hAj : A (uf j) = v := by rw [← hij]; exact hAi
  refine ⟨hAj, u1 j hj, he.1, Or.inr ⟨k, hk, fun d hd hud h0 hm => ?_⟩⟩
  obtain ⟨i2, q1, q2⟩ := u4 d j hd hj hud
  rw [hAj] at hm
  have := hone i2 q1 ⟨by rw [q2]; exact h0, by rw [q2]; exact hm⟩
  rw [← q2, this]
theorem lone_of {n N k c j : Nat} {b : Nat → Option Nat} {A : Nat → Nat} {uf : Nat → Nat} (hA : fulA n N A) (hb : subA N b A) (hu : isUn n N k uf) (hj : j < n) (hc : uf j = c) (h0 : b c = none) (h : ∀ d, d < N → uk n k d = uk n k c → b d = none → mayP n N b d (A c) → d = c) : unE n N b uf j (A c) ∧ loneP n N b uf n (A c) := by
  obtain ⟨hk, u1, u2, u3, u4⟩ := hu
  have hcN : c < N := by rw [← hc]; exact u1 j hj
  have hE : unE n N b uf j (A c) := ⟨by rw [hc]; exact h0, by rw [hc]; exact may_A hA hb hcN h0⟩
  have hone : ∀ i, i < n → unE n N b uf i (A c) → i = j := fun i hi q => by
    have := h (uf i) (u1 i hi) (by rw [← hc]; exact u3 i j hi hj) q.1 q.2
    exact u2 i j hi hj (by rw [this, hc])
  refine ⟨hE, ⟨j, hj, hE⟩, fun ⟨j1, j2, q1, q2, q3, q4⟩ => ?_⟩
  have h1 := hone j1 (by omega) q3
  have h2 := hone j2 q2 q4
  omega
theorem r_aald {X : ww_X} {cc : ByteArray} {n0 : Nat} {own : String} {Ts : List Cond} {rm : Room} {kc ks pc : Nat} {lv : List (Nat × Value)} {st : List Value} {ws : va_W} {a n i : Nat} {ra : Nat → Nat} (C : ww_C X cc n0 own Ts rm) (hd : decode cc pc = .ok (.aaload, 1)) (q0 : Nat) (ha : ws[q0]? = some (a, .inl (X.1.2.2.2.1, n, .inr (.inr (.inr (.inr (fun j => some (ra j)))))))) (hi : i < n) (hn : n < 2147483648) (k : RW X kc ks (pc + 1) lv (.ref (ra i) :: st) ws) : RW X kc ks pc lv (.int (nI i) :: .ref a :: st) ws := by
  obtain ⟨g, p, l, e, R, s, m, args, below, meth, c, A, H0, nL, Q⟩ := X
  obtain ⟨hx, hb, hml, rfl, hown, hts, hK, hA, hlocks, rfl⟩ := C
  intro H locs ls hP hD hS hl
  have e9 : (nI i).toNatClampNeg = i := nI_clamp (by omega)
  have hk9 := k H locs ls hP hD hS hl
  have hin := vp_in_nI hi hn
  exact W.aald (v := .ref (ra i)) (ty := .array .int) hx hb (hP q0 _ ha) ((hK.2 2 _ rfl).1 n (fun j => va_rf (some (ra j)))) rfl (fun q => by cases q) (by show ¬ (nI i < 0 ∨ (arrV _ _ _).slots.size ≤ _); rw [arrV_size]; exact hin) (by show (arrV _ _ _).slots[_]? = _; rw [e9, arrV_read _ _ hi]; rfl) rfl rfl hd hk9
theorem ww_subD2 {A : Nat → Prop} {ws wc : va_W} {is : List Nat} (hD : va_D A ws) (hn : is.Nodup) (hC : is.map (fun i => ws[i]?) = wc.map some) : va_D A wc := by
  refine ⟨fun i j p q hi hj e => ?_, fun i q hi => ?_⟩
  · obtain ⟨a, h1, h2⟩ := ww_pos hC i p hi
    obtain ⟨b, h3, h4⟩ := ww_pos hC j q hj
    have hab := hD.1 a b p q h2 h4 e
    subst hab
    have hp := List.pairwise_iff_getElem.mp hn
    obtain ⟨li, ei⟩ := List.getElem?_eq_some_iff.mp h1
    obtain ⟨lj, ej⟩ := List.getElem?_eq_some_iff.mp h3
    rcases Nat.lt_trichotomy i j with w | w | w
    · exact absurd (ei.trans ej.symm) (hp i j li lj w)
    · exact w
    · exact absurd (ej.trans ei.symm) (hp j i lj li w)
  · obtain ⟨a, h1, h2⟩ := ww_pos hC i q hi
    exact hD.2 a q h2
theorem ww_tailC {wx wcx pl : va_W} {is : List Nat} (hlt : ∀ i ∈ is, i < wx.length) (hC : is.map (fun i => wx[i]?) = wcx.map some) : (is ++ List.range' wx.length pl.length).map (fun i => (wx ++ pl)[i]?) = (wcx ++ pl).map some := by
  rw [List.map_append, List.map_append]
  congr 1
  · rw [← hC]
    apply List.map_congr_left
    intro i hi
    exact List.getElem?_append_left (hlt i hi)
  · apply List.ext_getElem?
    intro i
    rw [List.getElem?_map, List.getElem?_map]
    by_cases h : i < pl.length
    · rw [List.getElem?_range' h]
      simp only [Option.map_some]
      rw [List.getElem?_append_right (by omega), show wx.length + 1 * i - wx.length = i by omega, List.getElem?_eq_getElem h]
      rfl
    · rw [List.getElem?_eq_none (by rw [List.length_range']; omega), List.getElem?_eq_none (by omega)]
      rfl
theorem ww_tailN {m k : Nat} {is : List Nat} (hn : is.Nodup) (hlt : ∀ i ∈ is, i < m) : (is ++ List.range' m k).Nodup := by
  rw [List.nodup_append]
  refine ⟨hn, List.nodup_range', fun a ha b hb e => ?_⟩
  have h1 := hlt a ha
  have h2 := (List.mem_range'_1.mp hb).1
  omega
theorem ww_put_len : ∀ (is : List Nat) (xs ws : va_W), (ww_put ws is xs).length = ws.length
  | [], xs, ws => by simp [ww_put]
  | i :: is, [], ws => by simp [ww_put]
  | i :: is, x :: xs, ws => by
    show (ww_put (ws.set i x) is xs).length = _
    rw [ww_put_len is xs, List.length_set]
theorem ww_put_app : ∀ (is js : List Nat) (xs ys ws : va_W), is.length = xs.length → ww_put ws (is ++ js) (xs ++ ys) = ww_put (ww_put ws is xs) js ys
  | [], js, [], ys, ws, _ => by simp [ww_put]
  | i :: is, js, x :: xs, ys, ws, h => by
    show ww_put (ws.set i x) (is ++ js) (xs ++ ys) = ww_put (ww_put (ws.set i x) is xs) js ys
    exact ww_put_app is js xs ys _ (by simpa using h)
  | [], _, _ :: _, _, _, h => by simp at h
  | _ :: _, _, [], _, _, h => by simp at h
theorem set_app_l {α : Type} (a b : List α) (i : Nat) (x : α) (h : i < a.length) : (a ++ b).set i x = a.set i x ++ b := List.set_append_left _ _ h
theorem set_app_r {α : Type} (a b : List α) (x : α) : (a ++ x :: b).set a.length x = a ++ x :: b := by
  rw [List.set_append_right _ _ (Nat.le_refl _)]; simp
theorem ww_put_left : ∀ (is : List Nat) (xs wx pl : va_W), (∀ i ∈ is, i < wx.length) → ww_put (wx ++ pl) is xs = ww_put wx is xs ++ pl
  | [], xs, wx, pl, _ => by simp [ww_put]
  | i :: is, [], wx, pl, _ => by simp [ww_put]
  | i :: is, x :: xs, wx, pl, h => by
    exact (congrArg (fun w => ww_put w is xs) (set_app_l wx pl i x (h i List.mem_cons_self))).trans (ww_put_left is xs (wx.set i x) pl (fun j hj => by rw [List.length_set]; exact h j (List.mem_cons_of_mem _ hj)))
theorem ww_put_self : ∀ (pl wx : va_W), ww_put (wx ++ pl) (List.range' wx.length pl.length) pl = wx ++ pl
  | [], wx => by simp [ww_put]
  | x :: pl, wx => by
    refine (congrArg (fun w => ww_put w (List.range' (wx.length + 1) pl.length) pl) (set_app_r wx pl x)).trans ?_
    have h := ww_put_self pl (wx ++ [x])
    rw [List.length_append, List.append_assoc] at h
    exact h
section
variable {X : ww_X} {cc : ByteArray} {n0 : Nat} {own : String} {Ts : List Cond} {rm : Room} {kc ks pc : Nat} {lv : List (Nat × Value)} {st : List Value} {wx : va_W}
variable {y : MethodName} {wd wd' : List Cond} {rmY : Room} {b : Nat} {As : List Value} {wcx pl : va_W} {S : Type} {post : Option Value → S → Prop} {w1x : S → va_W} {index n maxL : Nat} {bytes : ByteArray} {ret : Option FieldType} {rest : List Value} {wx' : S → va_W}
/-- a call of a method that has the tail of the world among its own cells -/
theorem r_callV0t {CC : String} {ci N : Nat} {T : u_T} {fs : List Value} (C : ww_C X cc n0 own Ts rm) (hd : decode cc pc = .ok (.invokevirtual index, 3)) (hM : CT X.1 X.2.2.1 y wd rmY (.ref b :: As) (wcx ++ pl) post (fun u => w1x u ++ pl)) (hg : GoodIn Ts (wsV own index CC y wd)) (hw : wd = Cond.code y bytes maxL ret :: wd')
    (hdesc : y.cls = CC ∧ y.cls ≠ "java/lang/invoke/MethodHandle" ∧ y.cls ≠ "java/lang/invoke/VarHandle" ∧ (parseMethodDescriptor y.desc).map (fun d => d.parameters.length) = some n) (hn : As.length = n) (hR : rmY.frames + 1 ≤ rm.frames ∧ 8 + (maxL + 11) + rmY.locals ≤ rm.locals) (hz : rmY.cells = 0 ∧ rmY.slots = 0) (hcs : kc ≤ rm.cells ∧ ks ≤ rm.slots)
    (hst : st = As.reverse ++ .ref b :: rest) (hsum : (rest.map fun v => v.category).sum ≤ 8) (q0 : Nat) (hq : wcx[q0]? = some (b, .inr (ci, fs))) (hci : vwCl[ci]? = some (CC, T, N)) (is : List Nat) (hnd : is.Nodup) (hlt : ∀ i ∈ is, i < wx.length) (hC : is.map (fun i => wx[i]?) = wcx.map some) (hadr : ∀ u, (w1x u).map Prod.fst = wcx.map Prod.fst) (hws : ∀ u, ww_put wx is (w1x u) = wx' u)
    (kk : ∀ (v : Option Value) (u : S), post v u → RW X kc ks (pc + 3) lv (v.toList ++ rest) (wx' u ++ pl)) : RW X kc ks pc lv st (wx ++ pl) := by
  obtain ⟨g, p, l, e, R, s, m, args, below, meth, c, A, H0, nL, Q⟩ := X
  obtain ⟨hx, hb, hml, rfl, hown, hts, hK, hA, hlocks, rfl⟩ := C
  intro H locs ls hP hD hS hl
  subst hst
  have hC2 := ww_tailC (pl := pl) hlt hC
  have hPc := ww_subP (ws := wx ++ pl) hP hC2
  have hDc := ww_subD2 (ws := wx ++ pl) hD (ww_tailN hnd hlt) hC2
  have hFc := va_free (wc := wcx ++ pl) hD hS hA _ hC2
  obtain ⟨hbl, hpre⟩ := ww_pre (av := .ref b :: As) hPc hK hDc
  have hq2 : (wcx ++ pl)[q0]? = some (b, .inr (ci, fs)) := by rw [List.getElem?_append_left (List.getElem?_eq_some_iff.mp hq).1]; exact hq
  refine ww_callg (va_runV (As := As) (rest := rest) ⟨hx, hb, hml, hown, hts⟩ (hM H.size) (cwV n hts hg hw rfl rfl hdesc hR) ⟨hbl, va_recv hK hPc hci hq2, hpre⟩ rfl hn hl.1 rfl (lv_room hsum) hd (by rw [hz.1, hz.2]; exact hcs)) hS hFc (fun v u H1 locs1 hp hP1 hD1 hk hS1 => ?_)
  have hlen : is.length = (w1x u).length := by
    have h1 := congrArg List.length hC
    have h2 := congrArg List.length (hadr u)
    rw [List.length_map, List.length_map] at h1 h2
    omega
  have hws2 : ww_put (wx ++ pl) (is ++ List.range' wx.length pl.length) (w1x u ++ pl) ++ [] = wx' u ++ pl := by
    rw [List.append_nil, ww_put_app _ _ _ _ _ hlen, ww_put_left _ _ _ _ hlt]
    have h3 := ww_put_self pl (ww_put wx is (w1x u))
    rw [ww_put_len] at h3
    rw [h3, hws u]
  obtain ⟨hP2, hD2⟩ := ww_join (wo := w1x u ++ pl) (wn := []) hP hD _ hC2 (by rw [List.map_append, List.map_append, hadr u]) hk hFc (by rw [List.append_nil]; exact hP1) (by rw [List.append_nil]; exact hD1)
  rw [hws2] at hP2 hD2
  rw [hz.1, hz.2]
  exact kk v u hp H1 locs1 ls hP2 hD2 hS1 hl
end
