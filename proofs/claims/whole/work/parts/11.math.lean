/-! Boards and masks as mathematics -/
def bx (n c : Nat) : Nat := c / n / 2 * 2 + (if n / 2 ≤ c % n then 1 else 0)
abbrev gR (n : Nat) : Nat → Int32 := fun c => nI (c / n)
abbrev gC (n : Nat) : Nat → Int32 := fun c => nI (c % n)
abbrev gB (n : Nat) : Nat → Int32 := fun c => nI (bx n c)
theorem dv_lt {n N c : Nat} (hn : (n = 4 ∧ N = 16) ∨ (n = 6 ∧ N = 36)) (h : c < N) : c / n < n := by rcases hn with ⟨rfl, rfl⟩ | ⟨rfl, rfl⟩ <;> omega
theorem md_lt {n N c : Nat} (hn : (n = 4 ∧ N = 16) ∨ (n = 6 ∧ N = 36)) : c % n < n := by rcases hn with ⟨rfl, rfl⟩ | ⟨rfl, rfl⟩ <;> omega
theorem bx_lt {n N c : Nat} (hn : (n = 4 ∧ N = 16) ∨ (n = 6 ∧ N = 36)) (h : c < N) : bx n c < n := by unfold bx; rcases hn with ⟨rfl, rfl⟩ | ⟨rfl, rfl⟩ <;> split <;> omega
/-- two cells share a row, a column or a box (a cell with itself too) -/
def tog (n c d : Nat) : Prop := c / n = d / n ∨ c % n = d % n ∨ bx n c = bx n d
theorem tog_sym {n c d : Nat} (h : tog n c d) : tog n d c := by
  rcases h with h | h | h
  · exact Or.inl h.symm
  · exact Or.inr (Or.inl h.symm)
  · exact Or.inr (Or.inr h.symm)
def eo (o : Option Nat) : Int32 := match o with
  | none => -1
  | some v => nI v
abbrev eb (b : Nat → Option Nat) : Nat → Int32 := fun c => eo (b c)
def ub (b : Nat → Option Nat) (c : Nat) (o : Option Nat) : Nat → Option Nat := fun d => if d = c then o else b d
theorem ub_s {b : Nat → Option Nat} {c : Nat} {o : Option Nat} : ub b c o c = o := by simp [ub]
theorem ub_n {b : Nat → Option Nat} {c d : Nat} {o : Option Nat} (h : d ≠ c) : ub b c o d = b d := by simp [ub, h]
theorem ub_ub {b : Nat → Option Nat} {c : Nat} {o : Option Nat} (h : b c = none) : ub (ub b c o) c none = b := by
  funext d
  by_cases e : d = c
  · subst e; simp [ub, h]
  · simp [ub, e]
theorem eb_s {b : Nat → Option Nat} {c v : Nat} : upd (eb b) c (nI v) = eb (ub b c (some v)) := by
  funext d
  by_cases e : d = c
  · subst e; simp [upd, eb, ub, eo]
  · simp [upd, eb, ub, e]
theorem eb_0 {b : Nat → Option Nat} {c : Nat} : upd (eb b) c (-1) = eb (ub b c none) := by
  funext d
  by_cases e : d = c
  · subst e; simp [upd, eb, ub, eo]
  · simp [upd, eb, ub, e]
theorem eo_neg {o : Option Nat} (h : ∀ v, o = some v → v < 2147483648) : eo o < 0 ↔ o = none := by
  cases o with
  | none => simp [eo]
  | some v => simp only [eo]; constructor
              · intro q; exact absurd q (nI_pos (h v rfl))
              · intro q; cases q
theorem eo_ge {o : Option Nat} (h : ∀ v, o = some v → v < 2147483648) : 0 ≤ eo o ↔ o ≠ none := by
  cases o with
  | none => simp [eo]
  | some v => simp only [eo]; constructor
              · intro _ q; cases q
              · intro _; exact nI_pos' (h v rfl)
theorem eo_eq {o : Option Nat} {v : Nat} (hv : v < 2147483648) (h : ∀ u, o = some u → u < 2147483648) : eo o = nI v ↔ o = some v := by
  cases o with
  | none =>
    simp only [eo]; constructor
    · intro q
      have h1 := nI_pos' hv
      rw [← q] at h1
      exact absurd h1 (by decide)
    · intro q; cases q
  | some u =>
    simp only [eo]
    rw [nI_eq (h u rfl) hv]
    simp
/-! masks of six bits -/
def mkB (p : Nat → Bool) : Nat := (p 0).toNat + 2 * (p 1).toNat + 4 * (p 2).toNat + 8 * (p 3).toNat + 16 * (p 4).toNat + 32 * (p 5).toNat
theorem mkB_lt (p : Nat → Bool) : mkB p < 64 := by
  unfold mkB
  have h : ∀ b : Bool, b.toNat ≤ 1 := by intro b; cases b <;> decide
  have := h (p 0); have := h (p 1); have := h (p 2); have := h (p 3); have := h (p 4); have := h (p 5)
  omega
theorem mkB_tb6 : ∀ a b c d e f : Bool, (a.toNat + 2 * b.toNat + 4 * c.toNat + 8 * d.toNat + 16 * e.toNat + 32 * f.toNat).testBit 0 = a ∧ (a.toNat + 2 * b.toNat + 4 * c.toNat + 8 * d.toNat + 16 * e.toNat + 32 * f.toNat).testBit 1 = b ∧ (a.toNat + 2 * b.toNat + 4 * c.toNat + 8 * d.toNat + 16 * e.toNat + 32 * f.toNat).testBit 2 = c ∧ (a.toNat + 2 * b.toNat + 4 * c.toNat + 8 * d.toNat + 16 * e.toNat + 32 * f.toNat).testBit 3 = d ∧ (a.toNat + 2 * b.toNat + 4 * c.toNat + 8 * d.toNat + 16 * e.toNat + 32 * f.toNat).testBit 4 = e ∧ (a.toNat + 2 * b.toNat + 4 * c.toNat + 8 * d.toNat + 16 * e.toNat + 32 * f.toNat).testBit 5 = f := by
  intro a b c d e f
  cases a <;> cases b <;> cases c <;> cases d <;> cases e <;> cases f <;> decide
theorem mkB_tb (p : Nat → Bool) {i : Nat} (hi : i < 6) : (mkB p).testBit i = p i := by
  obtain ⟨h0, h1, h2, h3, h4, h5⟩ := mkB_tb6 (p 0) (p 1) (p 2) (p 3) (p 4) (p 5)
  match i, hi with
  | 0, _ => exact h0
  | 1, _ => exact h1
  | 2, _ => exact h2
  | 3, _ => exact h3
  | 4, _ => exact h4
  | 5, _ => exact h5
theorem tb_big {m i : Nat} (hm : m < 64) (hi : 6 ≤ i) : m.testBit i = false := by
  apply Nat.testBit_lt_two_pow
  have : (2 : Nat) ^ 6 ≤ 2 ^ i := Nat.pow_le_pow_right (by omega) hi
  omega
noncomputable def mkN (P : Nat → Prop) : Nat := mkB (fun v => @decide (P v) (Classical.propDecidable _))
theorem mkN_lt (P : Nat → Prop) : mkN P < 64 := mkB_lt _
theorem mkN_tb (P : Nat → Prop) {i : Nat} (hi : i < 6) : (mkN P).testBit i = true ↔ P i := by
  unfold mkN
  rw [mkB_tb _ hi]
  simp
theorem mkN_of {m : Nat} {P : Nat → Prop} (hm : m < 64) (h : ∀ i, i < 6 → (m.testBit i = true ↔ P i)) : m = mkN P := by
  apply Nat.eq_of_testBit_eq
  intro i
  by_cases hi : i < 6
  · have h1 := h i hi
    have h2 := mkN_tb P hi
    cases hb : m.testBit i
    · cases hc : (mkN P).testBit i
      · rfl
      · exact absurd (h1.mpr (h2.mp hc)) (by rw [hb]; decide)
    · rw [h2.mpr (h1.mp hb)]
  · rw [tb_big hm (by omega), tb_big (mkN_lt P) (by omega)]
theorem mkN_ext {P Q : Nat → Prop} (h : ∀ i, i < 6 → (P i ↔ Q i)) : mkN P = mkN Q := mkN_of (mkN_lt P) (fun i hi => (mkN_tb P hi).trans (h i hi))
theorem pow_lt64 {v : Nat} (h : v < 6) : 2 ^ v < 64 := by
  have : (2 : Nat) ^ (v + 1) ≤ 2 ^ 6 := Nat.pow_le_pow_right (by omega) (by omega)
  have e : (2 : Nat) ^ (v + 1) = 2 ^ v * 2 := Nat.pow_succ 2 v
  omega
theorem xor_lt64 {a b : Nat} (ha : a < 64) (hb : b < 64) : a ^^^ b < 64 := Nat.xor_lt_two_pow (n := 6) ha hb
theorem or_lt64 {a b : Nat} (ha : a < 64) (hb : b < 64) : a ||| b < 64 := Nat.or_lt_two_pow (n := 6) ha hb
theorem mkN_in {P : Nat → Prop} {v : Nat} (hv : v < 6) (h : ¬ P v) : mkN P ^^^ 2 ^ v = mkN (fun u => u = v ∨ P u) := by
  refine mkN_of (xor_lt64 (mkN_lt P) (pow_lt64 hv)) (fun i hi => ?_)
  rw [Nat.testBit_xor, Nat.testBit_two_pow]
  by_cases e : v = i
  · subst e
    have : (mkN P).testBit v = false := by
      cases hc : (mkN P).testBit v
      · rfl
      · exact absurd ((mkN_tb P hv).mp hc) h
    simp [this]
  · have h2 := mkN_tb P hi
    simp only [e, decide_false, Bool.xor_false]
    rw [h2]
    constructor
    · exact Or.inr
    · rintro (q | q)
      · exact absurd q.symm e
      · exact q
theorem mkN_out {P : Nat → Prop} {v : Nat} (hv : v < 6) (h : P v) : mkN P ^^^ 2 ^ v = mkN (fun u => u ≠ v ∧ P u) := by
  refine mkN_of (xor_lt64 (mkN_lt P) (pow_lt64 hv)) (fun i hi => ?_)
  rw [Nat.testBit_xor, Nat.testBit_two_pow]
  by_cases e : v = i
  · subst e
    simp [(mkN_tb P hv).mpr h]
  · have h2 := mkN_tb P hi
    simp only [e, decide_false, Bool.xor_false]
    rw [h2]
    constructor
    · intro q; exact ⟨fun w => e w.symm, q⟩
    · exact And.right
theorem nx_and (a b : Nat) : nI a &&& nI b = nI (a &&& b) := by
  apply Int32.toBitVec_inj.1
  show BitVec.ofNat 32 a &&& BitVec.ofNat 32 b = BitVec.ofNat 32 (a &&& b)
  apply BitVec.eq_of_getLsbD_eq
  intro i hi
  simp [hi]
theorem nx_xor (a b : Nat) : nI a ^^^ nI b = nI (a ^^^ b) := by
  apply Int32.toBitVec_inj.1
  show BitVec.ofNat 32 a ^^^ BitVec.ofNat 32 b = BitVec.ofNat 32 (a ^^^ b)
  apply BitVec.eq_of_getLsbD_eq
  intro i hi
  simp [hi]
theorem nx_or (a b : Nat) : nI a ||| nI b = nI (a ||| b) := by
  apply Int32.toBitVec_inj.1
  show BitVec.ofNat 32 a ||| BitVec.ofNat 32 b = BitVec.ofNat 32 (a ||| b)
  apply BitVec.eq_of_getLsbD_eq
  intro i hi
  simp [hi]
theorem sh1 : ∀ v, v < 6 → nI 1 <<< (nI v &&& 31) = nI (2 ^ v) := by decide +kernel
theorem cpl4 : ∀ m, m < 64 → nI 15 &&& (nI m ^^^ (-1)) = nI (15 &&& (63 - m)) := by decide +kernel
theorem cpl6 : ∀ m, m < 64 → nI 63 &&& (nI m ^^^ (-1)) = nI (63 &&& (63 - m)) := by decide +kernel
theorem cplt4 : ∀ m, m < 64 → ∀ i, i < 6 → ((15 &&& (63 - m)).testBit i = true ↔ i < 4 ∧ m.testBit i = false) := by decide +kernel
theorem cplt6 : ∀ m, m < 64 → ∀ i, i < 6 → ((63 &&& (63 - m)).testBit i = true ↔ i < 6 ∧ m.testBit i = false) := by decide +kernel
theorem cpl {n N m : Nat} (hn : (n = 4 ∧ N = 16) ∨ (n = 6 ∧ N = 36)) (hm : m < 64) {P : Nat → Prop} (h : ∀ i, i < 6 → (P i ↔ i < n ∧ m.testBit i = false)) : nI (2 ^ n - 1) &&& (nI m ^^^ (-1)) = nI (mkN P) := by
  rcases hn with ⟨rfl, rfl⟩ | ⟨rfl, rfl⟩
  · show nI 15 &&& _ = _
    rw [cpl4 m hm]
    exact congrArg nI (mkN_of (Nat.lt_of_le_of_lt Nat.and_le_left (by decide)) (fun i hi => (cplt4 m hm i hi).trans (h i hi).symm))
  · show nI 63 &&& _ = _
    rw [cpl6 m hm]
    exact congrArg nI (mkN_of (Nat.lt_of_le_of_lt Nat.and_le_left (by decide)) (fun i hi => (cplt6 m hm i hi).trans (h i hi).symm))
/-! a board's masks -/
noncomputable abbrev mR (n N : Nat) (b : Nat → Option Nat) : Nat → Int32 := fun y => nI (mkN (fun v => ∃ d, d < N ∧ d / n = y ∧ b d = some v))
noncomputable abbrev mC (n N : Nat) (b : Nat → Option Nat) : Nat → Int32 := fun y => nI (mkN (fun v => ∃ d, d < N ∧ d % n = y ∧ b d = some v))
noncomputable abbrev mB (n N : Nat) (b : Nat → Option Nat) : Nat → Int32 := fun y => nI (mkN (fun v => ∃ d, d < N ∧ bx n d = y ∧ b d = some v))
/-- the symbol v may be in the cell c, by what the board has -/
def mayP (n N : Nat) (b : Nat → Option Nat) (c v : Nat) : Prop := v < n ∧ ∀ d, d < N → tog n c d → b d ≠ some v
theorem may_mask {n N : Nat} {b : Nat → Option Nat} {c : Nat} (hn : (n = 4 ∧ N = 16) ∨ (n = 6 ∧ N = 36)) : nI (2 ^ n - 1) &&& (((mR n N b (c / n) ||| mC n N b (c % n)) ||| mB n N b (bx n c)) ^^^ (-1)) = nI (mkN (mayP n N b c)) := by
  rw [nx_or, nx_or]
  refine cpl hn (or_lt64 (or_lt64 (mkN_lt _) (mkN_lt _)) (mkN_lt _)) (fun i hi => ?_)
  rw [Nat.testBit_or, Nat.testBit_or]
  constructor
  · rintro ⟨h1, h2⟩
    refine ⟨h1, ?_⟩
    cases h3 : (mkN (fun v => ∃ d, d < N ∧ d / n = c / n ∧ b d = some v)).testBit i
    · cases h4 : (mkN (fun v => ∃ d, d < N ∧ d % n = c % n ∧ b d = some v)).testBit i
      · cases h5 : (mkN (fun v => ∃ d, d < N ∧ bx n d = bx n c ∧ b d = some v)).testBit i
        · rfl
        · obtain ⟨d, q1, q2, q3⟩ := (mkN_tb _ hi).mp h5
          exact absurd q3 (h2 d q1 (Or.inr (Or.inr q2.symm)))
      · obtain ⟨d, q1, q2, q3⟩ := (mkN_tb _ hi).mp h4
        exact absurd q3 (h2 d q1 (Or.inr (Or.inl q2.symm)))
    · obtain ⟨d, q1, q2, q3⟩ := (mkN_tb _ hi).mp h3
      exact absurd q3 (h2 d q1 (Or.inl q2.symm))
  · rintro ⟨h1, h2⟩
    refine ⟨h1, fun d q1 q2 q3 => ?_⟩
    rw [Bool.or_eq_false_iff, Bool.or_eq_false_iff] at h2
    rcases q2 with q2 | q2 | q2
    · exact absurd ((mkN_tb (fun v => ∃ d, d < N ∧ d / n = c / n ∧ b d = some v) hi).mpr ⟨d, q1, q2.symm, q3⟩) (by rw [h2.1.1]; decide)
    · exact absurd ((mkN_tb (fun v => ∃ d, d < N ∧ d % n = c % n ∧ b d = some v) hi).mpr ⟨d, q1, q2.symm, q3⟩) (by rw [h2.1.2]; decide)
    · exact absurd ((mkN_tb (fun v => ∃ d, d < N ∧ bx n d = bx n c ∧ b d = some v) hi).mpr ⟨d, q1, q2.symm, q3⟩) (by rw [h2.2]; decide)
theorem mask_put {n N c v : Nat} {b : Nat → Option Nat} (p : Nat → Nat) (hc : c < N) (hv : v < 6) (h0 : b c = none) (hm : ∀ d, d < N → p d = p c → b d ≠ some v) :
    upd (fun y => nI (mkN (fun v => ∃ d, d < N ∧ p d = y ∧ b d = some v))) (p c) ((fun y => nI (mkN (fun v => ∃ d, d < N ∧ p d = y ∧ b d = some v))) (p c) ^^^ nI (2 ^ v)) = fun y => nI (mkN (fun u => ∃ d, d < N ∧ p d = y ∧ ub b c (some v) d = some u)) := by
  funext y
  by_cases e : y = p c
  · subst e
    simp only [upd, if_true]
    rw [nx_xor, mkN_in hv (fun ⟨d, q1, q2, q3⟩ => hm d q1 q2 q3)]
    refine congrArg nI (mkN_ext (fun i _ => ?_))
    constructor
    · rintro (q | ⟨d, q1, q2, q3⟩)
      · exact ⟨c, hc, rfl, by rw [ub_s, q]⟩
      · exact ⟨d, q1, q2, by rw [ub_n (fun e => by rw [e, h0] at q3; cases q3)]; exact q3⟩
    · rintro ⟨d, q1, q2, q3⟩
      by_cases e : d = c
      · subst e; rw [ub_s] at q3; exact Or.inl (Option.some.inj q3).symm
      · rw [ub_n e] at q3; exact Or.inr ⟨d, q1, q2, q3⟩
  · simp only [upd, e, if_false]
    refine congrArg nI (mkN_ext (fun i _ => ?_))
    constructor
    · rintro ⟨d, q1, q2, q3⟩
      exact ⟨d, q1, q2, by rw [ub_n (fun e => by rw [e, h0] at q3; cases q3)]; exact q3⟩
    · rintro ⟨d, q1, q2, q3⟩
      by_cases e2 : d = c
      · subst e2; exact absurd q2.symm e
      · rw [ub_n e2] at q3; exact ⟨d, q1, q2, q3⟩
theorem mask_out {n N c v : Nat} {b : Nat → Option Nat} (p : Nat → Nat) (hc : c < N) (hv : v < 6) (h0 : b c = some v) (hm : ∀ d, d < N → d ≠ c → p d = p c → b d ≠ some v) :
    upd (fun y => nI (mkN (fun v => ∃ d, d < N ∧ p d = y ∧ b d = some v))) (p c) ((fun y => nI (mkN (fun v => ∃ d, d < N ∧ p d = y ∧ b d = some v))) (p c) ^^^ nI (2 ^ v)) = fun y => nI (mkN (fun u => ∃ d, d < N ∧ p d = y ∧ ub b c none d = some u)) := by
  funext y
  by_cases e : y = p c
  · subst e
    simp only [upd, if_true]
    rw [nx_xor, mkN_out hv ⟨c, hc, rfl, h0⟩]
    refine congrArg nI (mkN_ext (fun i _ => ?_))
    constructor
    · rintro ⟨q, d, q1, q2, q3⟩
      exact ⟨d, q1, q2, by rw [ub_n (fun e => by rw [e, h0] at q3; exact q (Option.some.inj q3).symm)]; exact q3⟩
    · rintro ⟨d, q1, q2, q3⟩
      by_cases e : d = c
      · subst e; rw [ub_s] at q3; cases q3
      · rw [ub_n e] at q3
        exact ⟨fun w => hm d q1 e q2 (w ▸ q3), d, q1, q2, q3⟩
  · simp only [upd, e, if_false]
    refine congrArg nI (mkN_ext (fun i _ => ?_))
    constructor
    · rintro ⟨d, q1, q2, q3⟩
      have hdc : d ≠ c := fun w => by subst w; exact e q2.symm
      exact ⟨d, q1, q2, by rw [ub_n hdc]; exact q3⟩
    · rintro ⟨d, q1, q2, q3⟩
      by_cases e2 : d = c
      · subst e2; exact absurd q2.symm e
      · rw [ub_n e2] at q3; exact ⟨d, q1, q2, q3⟩
/-- symbols are in range, and no two cells that see each other are alike -/
def okB (n N : Nat) (b : Nat → Option Nat) : Prop := (∀ c v, b c = some v → v < n) ∧ ∀ c d v, c < N → d < N → c ≠ d → tog n c d → b c = some v → b d ≠ some v
theorem up_S {i : Nat} {f : Nat → Int32} {x : Int32} {Q : Nat → Int32 → Prop} (h : ∀ c, c < i → Q c (f c)) (hx : Q i x) : ∀ c, c < i + 1 → Q c (upd f i x c) := by
  intro c q
  by_cases e : c = i
  · subst e; rw [pk_us]; exact hx
  · rw [pk_un e]; exact h c (by omega)
