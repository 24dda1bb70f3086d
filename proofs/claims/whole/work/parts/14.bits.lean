/-! the JDK's bit functions on six bits; numbers of 64 bits -/
def pcb (m : Nat) : Nat → Nat
  | 0 => 0
  | t + 1 => pcb m t + (m.testBit t).toNat
noncomputable def cn (P : Nat → Prop) : Nat → Nat
  | 0 => 0
  | t + 1 => cn P t + dI (P t)
theorem cn_pcb {P : Nat → Prop} : ∀ {t : Nat}, t ≤ 6 → pcb (mkN P) t = cn P t
  | 0, _ => rfl
  | t + 1, h => by
    show pcb (mkN P) t + ((mkN P).testBit t).toNat = cn P t + dI (P t)
    rw [cn_pcb (by omega)]
    by_cases q : P t
    · rw [dI_t q, (mkN_tb P (by omega)).mpr q]; rfl
    · rw [dI_f q]
      cases e : (mkN P).testBit t
      · rfl
      · exact absurd ((mkN_tb P (by omega)).mp e) q
theorem cn_cut {P : Nat → Prop} {n : Nat} (h : ∀ v, P v → v < n) : ∀ {k : Nat}, n ≤ k → cn P k = cn P n := by
  intro k
  induction k with
  | zero => intro q; rw [show n = 0 by omega]
  | succ k ih =>
    intro q
    by_cases e : n = k + 1
    · rw [e]
    · show cn P k + dI (P k) = _
      rw [ih (by omega), dI_f (fun w => by have := h k w; omega)]; omega
theorem cn_le {P : Nat → Prop} : ∀ (k : Nat), cn P k ≤ k
  | 0 => Nat.le_refl 0
  | k + 1 => by
    have := cn_le (P := P) k
    have h : dI (P k) ≤ 1 := by
      by_cases q : P k
      · rw [dI_t q]; exact Nat.le_refl 1
      · rw [dI_f q]; exact Nat.zero_le 1
    show cn P k + dI (P k) ≤ k + 1
    omega
theorem cn_mono {P : Nat → Prop} {a b : Nat} (h : a ≤ b) : cn P a ≤ cn P b := by
  induction b with
  | zero => rw [show a = 0 by omega]; exact Nat.le_refl _
  | succ b ih =>
    by_cases e : a = b + 1
    · rw [e]; exact Nat.le_refl _
    · have := ih (by omega)
      show cn P a ≤ cn P b + dI (P b)
      omega
theorem cn_inj {P : Nat → Prop} {a b : Nat} (ha : P a) (hb : P b) (e : cn P a = cn P b) : a = b := by
  have key : ∀ x y, P x → x < y → cn P x < cn P y := fun x y hx q => by
    have h1 := cn_mono (P := P) (show x + 1 ≤ y from q)
    have h2 : cn P (x + 1) = cn P x + 1 := by show cn P x + dI (P x) = _; rw [dI_t hx]
    omega
  rcases Nat.lt_trichotomy a b with q | q | q
  · have := key a b ha q; omega
  · exact q
  · have := key b a hb q; omega
def drB (m : Nat) : Nat := m &&& (m - 1)
def drK (m : Nat) : Nat → Nat
  | 0 => m
  | k + 1 => drB (drK m k)
theorem drB_lt {m : Nat} (h : m < 64) : drB m < 64 := Nat.lt_of_le_of_lt Nat.and_le_left h
theorem drK_lt {m : Nat} (h : m < 64) : ∀ k, drK m k < 64
  | 0 => h
  | k + 1 => drB_lt (drK_lt h k)
theorem drB_i : ∀ m, m < 64 → nI m &&& (nI m - nI 1) = nI (drB m) := by decide +kernel
def ntz (m : Nat) : Nat := if m.testBit 0 then 0 else if m.testBit 1 then 1 else if m.testBit 2 then 2 else if m.testBit 3 then 3 else if m.testBit 4 then 4 else if m.testBit 5 then 5 else 32
theorem kth_m : ∀ m, m < 64 → ∀ j, j < 6 → j < pcb m 6 → (0 < drK m j ∧ ntz (drK m j) < 6 ∧ m.testBit (ntz (drK m j)) = true ∧ pcb m (ntz (drK m j)) = j) := by decide +kernel
theorem ntz_1 : ∀ m, m < 64 → 0 < m → pcb m 6 = 1 → (ntz m < 6 ∧ m.testBit (ntz m) = true) := by decide +kernel
theorem ntz_tb : ∀ m, m < 64 → 0 < m → (ntz m < 6 ∧ m.testBit (ntz m) = true ∧ ∀ i, i < 6 → m.testBit i = true → ntz m ≤ i) := by decide +kernel
def uN (x : Int64) : Nat := x.toBitVec.toNat
/-- the upper 31 bits -/
def hb (x : Int64) : Nat := uN x / 8589934592
theorem hb_lt (x : Int64) : hb x < 2147483648 := by
  have : uN x < 18446744073709551616 := x.toBitVec.isLt
  unfold hb
  omega
def nx (x : Int64) : Int64 := 6364136223846793005 * x + 1442695040888963407
theorem uN_shr (x : Int64) (s : UInt64) : uN (x.toUInt64 >>> s).toInt64 = uN x / 2 ^ (s.toNat % 64) := by
  show (x.toUInt64 >>> s).toNat = _
  rw [UInt64.toNat_shiftRight, Nat.shiftRight_eq_div_pow]
  rfl
theorem hb_ushr (x : Int64) : uN (x.toUInt64 >>> ((nI 33).toInt64.toUInt64 &&& Int64.toUInt64 63)).toInt64 = hb x := by
  have h : ((nI 33).toInt64.toUInt64 &&& Int64.toUInt64 63).toNat % 64 = 33 := by decide +kernel
  rw [uN_shr, h]
  rfl
theorem uN_lN (x : Int64) : x = lN (uN x) := by
  apply Int64.toBitVec_inj.1
  show x.toBitVec = BitVec.ofNat 64 x.toBitVec.toNat
  apply BitVec.eq_of_toNat_eq
  simp
theorem uN_i32 (x : Int64) : x.toInt32 = nI (uN x) := by
  have h := lN_i (uN x)
  rw [← uN_lN] at h
  exact h
theorem hb_i (x : Int64) : ((x.toUInt64 >>> ((nI 33).toInt64.toUInt64 &&& Int64.toUInt64 63)).toInt64).toInt32 = nI (hb x) := by rw [uN_i32, hb_ushr]
