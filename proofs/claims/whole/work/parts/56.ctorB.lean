theorem cell_lt {n N x y : Nat} (hn : (n = 4 ∧ N = 16) ∨ (n = 6 ∧ N = 36)) (hy : y < n) (hx : x < n) : n * y + x < N := by
  rcases hn with ⟨rfl, rfl⟩ | ⟨rfl, rfl⟩ <;> omega
theorem cell_dv {n x y : Nat} (hx : x < n) : (n * y + x) / n = y ∧ (n * y + x) % n = x := by
  refine ⟨?_, ?_⟩
  · rw [Nat.mul_add_div (by omega), Nat.div_eq_of_lt hx, Nat.add_zero]
  · rw [Nat.mul_add_mod, Nat.mod_eq_of_lt hx]
theorem bxv_t {n x y : Nat} (hx : x < n) (h : x < n / 2) : y / 2 * 2 = bx n (n * y + x) := by
  unfold bx
  rw [(cell_dv hx).1, (cell_dv hx).2, if_neg (by omega)]; rfl
theorem bxv_f {n x y : Nat} (hx : x < n) (h : ¬ x < n / 2) : y / 2 * 2 + 1 = bx n (n * y + x) := by
  unfold bx
  rw [(cell_dv hx).1, (cell_dv hx).2, if_pos (by omega)]
theorem boxj_t {n N x y : Nat} (hn : (n = 4 ∧ N = 16) ∨ (n = 6 ∧ N = 36)) (hy : y < n) (h : x < n / 2) : (y - y / 2 * 2) * (n / 2) + x < n := by
  rcases hn with ⟨rfl, rfl⟩ | ⟨rfl, rfl⟩ <;> omega
theorem boxj_f {n N x y : Nat} (hn : (n = 4 ∧ N = 16) ∨ (n = 6 ∧ N = 36)) (hy : y < n) (hx : x < n) (h : ¬ x < n / 2) : (y - y / 2 * 2) * (n / 2) + (x - n / 2) < n := by
  rcases hn with ⟨rfl, rfl⟩ | ⟨rfl, rfl⟩ <;> omega
def boxJ (n y x : Nat) : Nat := (y - y / 2 * 2) * (n / 2) + (if x < n / 2 then x else x - n / 2)
theorem boxp_t {n N x y : Nat} (hn : (n = 4 ∧ N = 16) ∨ (n = 6 ∧ N = 36)) (hy : y < n) (hx : x < n) (h : x < n / 2) : (y - y / 2 * 2) * (n / 2) + x = boxJ n y x := by unfold boxJ; rw [if_pos h]
theorem boxp_f {n N x y : Nat} (hn : (n = 4 ∧ N = 16) ∨ (n = 6 ∧ N = 36)) (hy : y < n) (hx : x < n) (h : ¬ x < n / 2) : (y - y / 2 * 2) * (n / 2) + (x - n / 2) = boxJ n y x := by unfold boxJ; rw [if_neg h]
theorem un_a4 : ∀ c, c < 16 → unF 4 (c / 4) (c % 4) = c ∧ unF 4 (4 + c % 4) (c / 4) = c ∧ unF 4 (2 * 4 + bx 4 c) (boxJ 4 (c / 4) (c % 4)) = c := by decide +kernel
theorem un_a6 : ∀ c, c < 36 → unF 6 (c / 6) (c % 6) = c ∧ unF 6 (6 + c % 6) (c / 6) = c ∧ unF 6 (2 * 6 + bx 6 c) (boxJ 6 (c / 6) (c % 6)) = c := by decide +kernel
def unQ (n u j : Nat) : Prop := (u = unF n u j / n ∧ j = unF n u j % n) ∨ (u = n + unF n u j % n ∧ j = unF n u j / n) ∨ (u = 2 * n + bx n (unF n u j) ∧ j = boxJ n (unF n u j / n) (unF n u j % n))
theorem un_b4 : ∀ u, u < 12 → ∀ j, j < 4 → (u = unF 4 u j / 4 ∧ j = unF 4 u j % 4) ∨ (u = 4 + unF 4 u j % 4 ∧ j = unF 4 u j / 4) ∨ (u = 2 * 4 + bx 4 (unF 4 u j) ∧ j = boxJ 4 (unF 4 u j / 4) (unF 4 u j % 4)) := by decide +kernel
theorem un_b6 : ∀ u, u < 18 → ∀ j, j < 6 → (u = unF 6 u j / 6 ∧ j = unF 6 u j % 6) ∨ (u = 6 + unF 6 u j % 6 ∧ j = unF 6 u j / 6) ∨ (u = 2 * 6 + bx 6 (unF 6 u j) ∧ j = boxJ 6 (unF 6 u j / 6) (unF 6 u j % 6)) := by decide +kernel
theorem un_at {n N x y : Nat} (hn : (n = 4 ∧ N = 16) ∨ (n = 6 ∧ N = 36)) (hy : y < n) (hx : x < n) : (unF n y x = n * y + x ∧ unF n (n + x) y = n * y + x ∧ unF n (2 * n + bx n (n * y + x)) (boxJ n y x) = n * y + x) ∧ ∀ u, u < 3 * n → ∀ j, j < n → unF n u j = n * y + x → (u = y ∧ j = x) ∨ (u = n + x ∧ j = y) ∨ (u = 2 * n + bx n (n * y + x) ∧ j = boxJ n y x) := by
  have hcl := cell_lt hn hy hx
  obtain ⟨d1, d2⟩ := cell_dv (y := y) hx
  have hA : unF n ((n * y + x) / n) ((n * y + x) % n) = n * y + x ∧ unF n (n + (n * y + x) % n) ((n * y + x) / n) = n * y + x ∧ unF n (2 * n + bx n (n * y + x)) (boxJ n ((n * y + x) / n) ((n * y + x) % n)) = n * y + x := by
    rcases hn with ⟨rfl, rfl⟩ | ⟨rfl, rfl⟩
    · exact un_a4 _ hcl
    · exact un_a6 _ hcl
  rw [d1, d2] at hA
  refine ⟨hA, fun u hu j hj e => ?_⟩
  have hB : unQ n u j := by
    rcases hn with ⟨rfl, rfl⟩ | ⟨rfl, rfl⟩
    · exact un_b4 u hu j hj
    · exact un_b6 u hu j hj
  unfold unQ at hB
  rw [e, d1, d2] at hB
  exact hB
theorem unF_lt {n N u j : Nat} (hn : (n = 4 ∧ N = 16) ∨ (n = 6 ∧ N = 36)) (hu : u < 3 * n) (hj : j < n) : unF n u j < N := by
  obtain ⟨k, t, hk, ht, rfl⟩ := unit_kt hn hu
  exact (unF_ok hn hk ht hj).1
theorem gr_S {n N x y : Nat} {fr fc fb : Nat → Int32} (hn : (n = 4 ∧ N = 16) ∨ (n = 6 ∧ N = 36)) (hy : y < n) (hx : x < n) (h : ∀ c, c < n * y + x → fr c = nI (c / n) ∧ fc c = nI (c % n) ∧ fb c = nI (bx n c)) : ∀ c, c < n * y + (x + 1) → upd fr (n * y + x) (nI y) c = nI (c / n) ∧ upd fc (n * y + x) (nI x) c = nI (c % n) ∧ upd fb (n * y + x) (nI (bx n (n * y + x))) c = nI (bx n c) := fun c q => by
  by_cases e : c = n * y + x
  · subst e
    rw [(cell_dv hx).1, (cell_dv hx).2]
    simp [upd]
  · have := h c (by omega)
    simp [upd, e, this]
theorem un_S {n N x y J : Nat} {f : Nat → Nat → Int32} (hn : (n = 4 ∧ N = 16) ∨ (n = 6 ∧ N = 36)) (hy : y < n) (hx : x < n) (h : ∀ u j, u < 3 * n → j < n → unF n u j < n * y + x → f u j = nI (unF n u j)) (hJ : J = boxJ n y x) :
    ∀ u j, u < 3 * n → j < n → unF n u j < n * y + (x + 1) → (fun v => if v = 2 * n + bx n (n * y + x) then upd ((fun v => if v = n + x then upd ((fun v => if v = y then upd (f y) x (nI (n * y + x)) else f v) (n + x)) y (nI (n * y + x)) else (fun v => if v = y then upd (f y) x (nI (n * y + x)) else f v) v) (2 * n + bx n (n * y + x))) J (nI (n * y + x)) else (fun v => if v = n + x then upd ((fun v => if v = y then upd (f y) x (nI (n * y + x)) else f v) (n + x)) y (nI (n * y + x)) else (fun v => if v = y then upd (f y) x (nI (n * y + x)) else f v) v) v) u j = nI (unF n u j) := by
  intro u j hu hj hlt
  subst hJ
  obtain ⟨⟨a1, a2, a3⟩, hall⟩ := un_at hn hy hx
  by_cases e : unF n u j = n * y + x
  · rcases hall u hu j hj e with ⟨rfl, rfl⟩ | ⟨rfl, rfl⟩ | ⟨rfl, rfl⟩
    · have n1 : ¬ u = 2 * n + bx n (n * u + j) := by omega
      have n2 : ¬ u = n + j := by omega
      simp only [if_neg n1, if_neg n2, if_true, e]
      simp [upd]
    · have n1 : ¬ n + x = 2 * n + bx n (n * j + x) := by omega
      simp only [if_neg n1, if_true, e]
      simp [upd]
    · simp only [if_true, e]
      simp [upd]
  · have hf := h u j hu hj (by omega)
    by_cases e3 : u = 2 * n + bx n (n * y + x)
    · subst e3
      have n2 : ¬ 2 * n + bx n (n * y + x) = n + x := by omega
      have n3 : ¬ 2 * n + bx n (n * y + x) = y := by omega
      have nj : ¬ j = boxJ n y x := fun w => e (by rw [w]; exact a3)
      simp only [if_true, if_neg n2, if_neg n3]
      simp [upd, nj, hf]
    · simp only [if_neg e3]
      by_cases e2 : u = n + x
      · subst e2
        have n3 : ¬ n + x = y := by omega
        have nj : ¬ j = y := fun w => e (by rw [w]; exact a2)
        simp only [if_true, if_neg n3]
        simp [upd, nj, hf]
      · simp only [if_neg e2]
        by_cases e1 : u = y
        · subst e1
          have nj : ¬ j = x := fun w => e (by rw [w]; exact a1)
          simp only [if_true]
          simp [upd, nj, hf]
        · simp only [if_neg e1]; exact hf
theorem oX4_init : Cond.methodLink RX4 1 objectInit ∈ wsX4_init ∧ Cond.instanceMethod objectInit ∈ wsX4_init ∧ Cond.code objectInit ⟨#[0xb1]⟩ 1 none ∈ wsX4_init := ⟨List.mem_of_getElem? (i := 1) rfl, List.mem_of_getElem? (i := 2) rfl, List.mem_of_getElem? (i := 3) rfl⟩
theorem fX4_init_7 : Cond.fieldLink RX4 7 (TX4 0).1 (TX4 0).2.1 (TX4 0).2.2.1 ∈ wsX4_init := List.mem_of_getElem? (i := 4) rfl
theorem iX4_init_X4 : ∀ w ∈ wsX40, w ∈ wsX4_init := by decide +kernel
theorem fX4_init_13 : Cond.fieldLink RX4 13 (TX4 1).1 (TX4 1).2.1 (TX4 1).2.2.1 ∈ wsX4_init := List.mem_of_getElem? (i := 5) rfl
theorem fX4_init_16 : Cond.fieldLink RX4 16 (TX4 2).1 (TX4 2).2.1 (TX4 2).2.2.1 ∈ wsX4_init := List.mem_of_getElem? (i := 6) rfl
theorem naX4_init_I : Cond.arrayClass .int ∈ wsX4_init := List.mem_of_getElem? (i := 7) rfl
theorem fX4_init_19 : Cond.fieldLink RX4 19 (TX4 3).1 (TX4 3).2.1 (TX4 3).2.2.1 ∈ wsX4_init := List.mem_of_getElem? (i := 8) rfl
theorem fX4_init_23 : Cond.fieldLink RX4 23 (TX4 4).1 (TX4 4).2.1 (TX4 4).2.2.1 ∈ wsX4_init := List.mem_of_getElem? (i := 9) rfl
theorem fX4_init_26 : Cond.fieldLink RX4 26 (TX4 5).1 (TX4 5).2.1 (TX4 5).2.2.1 ∈ wsX4_init := List.mem_of_getElem? (i := 10) rfl
theorem maX4_init : Cond.classLink RX4 29 "[[I" ∈ wsX4_init := List.mem_of_getElem? (i := 11) rfl
theorem fX4_init_31 : Cond.fieldLink RX4 31 (TX4 6).1 (TX4 6).2.1 (TX4 6).2.2.1 ∈ wsX4_init := List.mem_of_getElem? (i := 12) rfl
set_option maxHeartbeats 4000000 in
set_option maxRecDepth 100000 in
theorem c_X4_init {g : ww_G} {l : Launch} {aG : Nat} {n : Nat} {N : Nat} (hn : (n = 4 ∧ N = 16) ∨ (n = 6 ∧ N = 36)) : CTK g l yX4_init wsX4_init ({ frames := 2, cells := 22, slots := 234, locals := 80 } : Room) [.ref aG, .int (nI n)] ([(aG, .inr (5, [.int (nI 0), .int (nI 0), .int (nI 0), .null, .null, .null, .null]))] ++ []) (S := Nat × Nat × Nat × Nat × (Nat → Nat)) (fun vv9 u => vv9 = none) (fun u => ([(aG, .inr (5, [.int (nI n), .int (nI N), .int (nI (2 ^ n - 1)), .ref u.1, .ref u.2.1, .ref u.2.2.1, .ref u.2.2.2.1])), (u.1, .inl (g.2.1, N, .inl (gR n))), (u.2.1, .inl (g.2.1, N, .inl (gC n))), (u.2.2.1, .inl (g.2.1, N, .inl (gB n))), (u.2.2.2.1, .inl (g.2.2.2.1, 3 * n, .inr (.inr (.inr (.inr (fun j => some (u.2.2.2.2 j)))))))] ++ ww_pl g.2.1 n (3 * n) u.2.2.2.2 (fun u => nO (unF n u)))) := by
  refine CTK.of cX4_init 8 none RX4 (by decide +kernel) rfl rfl rfl (Nat.le_of_ble_eq_true rfl) ?_
  intro X hg hl C hI hret
  subst hg; subst hl
  show RW X 0 0 0 [(0, .ref aG), (1, .int (nI n))] [] ([(aG, .inr (5, [.int (nI 0), .int (nI 0), .int (nI 0), .null, .null, .null, .null]))] ++ [])
  have hnN : nI n * nI n = nI N := by rcases hn with ⟨rfl, rfl⟩ | ⟨rfl, rfl⟩ <;> decide
  have hsh : nI 1 <<< (nI n &&& 31) = nI (2 ^ n) := by rcases hn with ⟨rfl, rfl⟩ | ⟨rfl, rfl⟩ <;> decide
  have hp1 : 1 ≤ 2 ^ n := Nat.one_le_two_pow
  refine r_aload_n C dX4_init_0 0 rfl rfl ?_
  refine r_objInit C dX4_init_1 oX4_init (by decide) (by decide) (by decide) ?_
  refine r_aload_n C dX4_init_4 0 rfl rfl ?_
  refine r_iload_n C dX4_init_5 1 rfl rfl ?_
  refine r_putF C hI dX4_init_6 iX4_init_X4 tyX4 tyX4_ok nmX4 0 fX4_init_7 0 rfl rfl (by decide) rfl rfl rfl rfl rfl (Nat.le_of_ble_eq_true rfl) (ws' := ([(aG, .inr (5, [.int (nI n), .int (nI 0), .int (nI 0), .null, .null, .null, .null]))] ++ [])) rfl ?_
  refine r_aload_n C dX4_init_9 0 rfl rfl ?_
  refine r_iload_n C dX4_init_10 1 rfl rfl ?_
  refine r_iload_n C dX4_init_11 1 rfl rfl ?_
  refine r_imul C dX4_init_12 (v := nI N) hnN ?_
  refine r_putF C hI dX4_init_13 iX4_init_X4 tyX4 tyX4_ok nmX4 1 fX4_init_13 0 rfl rfl (by decide) rfl rfl rfl rfl rfl (Nat.le_of_ble_eq_true rfl) (ws' := ([(aG, .inr (5, [.int (nI n), .int (nI N), .int (nI 0), .null, .null, .null, .null]))] ++ [])) rfl ?_
  refine r_aload_n C dX4_init_16 0 rfl rfl ?_
  refine r_iconst C dX4_init_17 (v := nI 1) (by decide) ?_
  refine r_iload_n C dX4_init_18 1 rfl rfl ?_
  refine r_ishl C dX4_init_19 (v := nI (2 ^ n)) hsh ?_
  refine r_iconst C dX4_init_20 (v := nI 1) (by decide) ?_
  refine r_isub C dX4_init_21 (v := nI (2 ^ n - 1)) (pk_sub hp1) ?_
  refine r_putF C hI dX4_init_22 iX4_init_X4 tyX4 tyX4_ok nmX4 2 fX4_init_16 0 rfl rfl (by decide) rfl rfl rfl rfl rfl (Nat.le_of_ble_eq_true rfl) (ws' := ([(aG, .inr (5, [.int (nI n), .int (nI N), .int (nI (2 ^ n - 1)), .null, .null, .null, .null]))] ++ [])) rfl ?_
  refine r_aload_n C dX4_init_25 0 rfl rfl ?_
  refine r_aload_n C dX4_init_26 0 rfl rfl ?_
  refine r_get C dX4_init_27 iX4_init_X4 1 fX4_init_13 0 rfl rfl (by decide) rfl ?_
  refine r_newaI (N := N) C dX4_init_30 naX4_init_I (by omega) ⟨(by show 0 + 1 ≤ 22; omega), (by show 0 + N ≤ 234; omega)⟩ (fun gr => ?_)
  refine r_widen (kc2 := 1) (ks2 := 36) (by omega) (by omega) ?_
  show RW X 1 36 32 [(0, .ref aG), (1, .int (nI n))] [.ref gr, .ref aG] ([(aG, .inr (5, [.int (nI n), .int (nI N), .int (nI (2 ^ n - 1)), .null, .null, .null, .null])), (gr, .inl (X.1.2.1, N, .inl (fun _ => 0)))] ++ [])
  refine r_putF C hI dX4_init_32 iX4_init_X4 tyX4 tyX4_ok nmX4 3 fX4_init_19 0 rfl rfl (by decide) rfl rfl rfl rfl rfl (Nat.le_of_ble_eq_true rfl) (ws' := ([(aG, .inr (5, [.int (nI n), .int (nI N), .int (nI (2 ^ n - 1)), .ref gr, .null, .null, .null])), (gr, .inl (X.1.2.1, N, .inl (fun _ => 0)))] ++ [])) rfl ?_
  refine r_aload_n C dX4_init_35 0 rfl rfl ?_
  refine r_aload_n C dX4_init_36 0 rfl rfl ?_
  refine r_get C dX4_init_37 iX4_init_X4 1 fX4_init_13 0 rfl rfl (by decide) rfl ?_
  refine r_newaI (N := N) C dX4_init_40 naX4_init_I (by omega) ⟨(by show 1 + 1 ≤ 22; omega), (by show 36 + N ≤ 234; omega)⟩ (fun gc => ?_)
  refine r_widen (kc2 := 2) (ks2 := 72) (by omega) (by omega) ?_
  show RW X 2 72 42 [(0, .ref aG), (1, .int (nI n))] [.ref gc, .ref aG] ([(aG, .inr (5, [.int (nI n), .int (nI N), .int (nI (2 ^ n - 1)), .ref gr, .null, .null, .null])), (gr, .inl (X.1.2.1, N, .inl (fun _ => 0))), (gc, .inl (X.1.2.1, N, .inl (fun _ => 0)))] ++ [])
  refine r_putF C hI dX4_init_42 iX4_init_X4 tyX4 tyX4_ok nmX4 4 fX4_init_23 0 rfl rfl (by decide) rfl rfl rfl rfl rfl (Nat.le_of_ble_eq_true rfl) (ws' := ([(aG, .inr (5, [.int (nI n), .int (nI N), .int (nI (2 ^ n - 1)), .ref gr, .ref gc, .null, .null])), (gr, .inl (X.1.2.1, N, .inl (fun _ => 0))), (gc, .inl (X.1.2.1, N, .inl (fun _ => 0)))] ++ [])) rfl ?_
  refine r_aload_n C dX4_init_45 0 rfl rfl ?_
  refine r_aload_n C dX4_init_46 0 rfl rfl ?_
  refine r_get C dX4_init_47 iX4_init_X4 1 fX4_init_13 0 rfl rfl (by decide) rfl ?_
  refine r_newaI (N := N) C dX4_init_50 naX4_init_I (by omega) ⟨(by show 2 + 1 ≤ 22; omega), (by show 72 + N ≤ 234; omega)⟩ (fun gb => ?_)
  refine r_widen (kc2 := 3) (ks2 := 108) (by omega) (by omega) ?_
  show RW X 3 108 52 [(0, .ref aG), (1, .int (nI n))] [.ref gb, .ref aG] ([(aG, .inr (5, [.int (nI n), .int (nI N), .int (nI (2 ^ n - 1)), .ref gr, .ref gc, .null, .null])), (gr, .inl (X.1.2.1, N, .inl (fun _ => 0))), (gc, .inl (X.1.2.1, N, .inl (fun _ => 0))), (gb, .inl (X.1.2.1, N, .inl (fun _ => 0)))] ++ [])
  refine r_putF C hI dX4_init_52 iX4_init_X4 tyX4 tyX4_ok nmX4 5 fX4_init_26 0 rfl rfl (by decide) rfl rfl rfl rfl rfl (Nat.le_of_ble_eq_true rfl) (ws' := ([(aG, .inr (5, [.int (nI n), .int (nI N), .int (nI (2 ^ n - 1)), .ref gr, .ref gc, .ref gb, .null])), (gr, .inl (X.1.2.1, N, .inl (fun _ => 0))), (gc, .inl (X.1.2.1, N, .inl (fun _ => 0))), (gb, .inl (X.1.2.1, N, .inl (fun _ => 0)))] ++ [])) rfl ?_
  refine r_aload_n C dX4_init_55 0 rfl rfl ?_
  refine r_iconst C dX4_init_56 (v := nI 3) (by decide) ?_
  refine r_iload_n C dX4_init_57 1 rfl rfl ?_
  refine r_imul C dX4_init_58 (v := nI (3 * n)) (pk_mul _ _) ?_
  refine r_iload_n C dX4_init_59 1 rfl rfl ?_
  refine r_mna (a := (3 * n)) (b := n) C hI dX4_init_60 maX4_init (by omega) (by omega) ⟨(by show 3 + (1 + (3 * n)) ≤ 22; omega), (by show 108 + ((3 * n) + (3 * n) * n) ≤ 234; rcases hn with ⟨rfl, rfl⟩ | ⟨rfl, rfl⟩ <;> omega)⟩ (fun gu ra => ?_)
  refine r_widen (kc2 := 22) (ks2 := 234) (by omega) (by rcases hn with ⟨rfl, rfl⟩ | ⟨rfl, rfl⟩ <;> omega) ?_
  show RW X 22 234 64 [(0, .ref aG), (1, .int (nI n))] [.ref gu, .ref aG] ([(aG, .inr (5, [.int (nI n), .int (nI N), .int (nI (2 ^ n - 1)), .ref gr, .ref gc, .ref gb, .null])), (gr, .inl (X.1.2.1, N, .inl (fun _ => 0))), (gc, .inl (X.1.2.1, N, .inl (fun _ => 0))), (gb, .inl (X.1.2.1, N, .inl (fun _ => 0))), (gu, .inl (X.1.2.2.2.1, 3 * n, .inr (.inr (.inr (.inr (fun j => some (ra j)))))))] ++ ww_pl X.1.2.1 n (3 * n) ra (fun _ _ => 0))
  refine r_putF C hI dX4_init_64 iX4_init_X4 tyX4 tyX4_ok nmX4 6 fX4_init_31 0 rfl rfl (by decide) rfl rfl rfl rfl rfl (Nat.le_of_ble_eq_true rfl) (ws' := ([(aG, .inr (5, [.int (nI n), .int (nI N), .int (nI (2 ^ n - 1)), .ref gr, .ref gc, .ref gb, .ref gu])), (gr, .inl (X.1.2.1, N, .inl (fun _ => 0))), (gc, .inl (X.1.2.1, N, .inl (fun _ => 0))), (gb, .inl (X.1.2.1, N, .inl (fun _ => 0))), (gu, .inl (X.1.2.2.2.1, 3 * n, .inr (.inr (.inr (.inr (fun j => some (ra j)))))))] ++ ww_pl X.1.2.1 n (3 * n) ra (fun _ _ => 0))) rfl ?_
  refine r_iload_n C dX4_init_67 1 rfl rfl ?_
  refine r_iconst C dX4_init_68 (v := nI 2) (by decide) ?_
  refine r_idiv C dX4_init_69 (nI_ne0 (by omega) (by omega)) (v := nI (n / 2)) (pk_div (by omega) (by omega) (by omega)) ?_
  refine r_istore_n C dX4_init_70 rfl (by decide) [1, 2, 0] (lv' := [(0, .ref aG), (1, .int (nI n)), (2, .int (nI (n / 2)))]) rfl ?_
  refine r_iconst C dX4_init_71 (v := nI 0) (by decide) ?_
  refine r_istore_n C dX4_init_72 rfl (by decide) [1, 2, 3, 0] (lv' := [(0, .ref aG), (1, .int (nI n)), (2, .int (nI (n / 2))), (3, .int (nI 0))]) rfl ?_
  have L73 : ∀ (d73 : Nat) (y : Nat) (fr1 : Nat → Int32) (fc1 : Nat → Int32) (fb1 : Nat → Int32) (f1 : Nat → Nat → Int32), (n - y) < d73 → (y ≤ n) → (∀ c, c < n * y → fr1 c = nI (c / n) ∧ fc1 c = nI (c % n) ∧ fb1 c = nI (bx n c)) → (∀ u j, u < 3 * n → j < n → unF n u j < n * y → f1 u j = nI (unF n u j)) → RW X 22 234 73 [(0, .ref aG), (1, .int (nI n)), (2, .int (nI (n / 2))), (3, .int (nI y))] [] ([(aG, .inr (5, [.int (nI n), .int (nI N), .int (nI (2 ^ n - 1)), .ref gr, .ref gc, .ref gb, .ref gu])), (gr, .inl (X.1.2.1, N, .inl fr1)), (gc, .inl (X.1.2.1, N, .inl fc1)), (gb, .inl (X.1.2.1, N, .inl fb1)), (gu, .inl (X.1.2.2.2.1, 3 * n, .inr (.inr (.inr (.inr (fun j => some (ra j)))))))] ++ ww_pl X.1.2.1 n (3 * n) ra f1) := by
    intro d73
    induction d73 with
    | zero => intro y fr1 fc1 fb1 f1 hd73; exact absurd hd73 (Nat.not_lt_zero _)
    | succ d73 ih73 =>
      intro y fr1 fc1 fb1 f1 hd73 hy hR0 hU0
      refine r_iload_n C dX4_init_73 3 rfl rfl ?_
      refine r_iload_n C dX4_init_74 1 rfl rfl ?_
      refine r_icmp_ge (tgt := 229) C dX4_init_75 (by decide) (fun h75 => ?_) (fun h75 => ?_)
      · have h75 : n ≤ y := (nI_leI (by omega) (by omega)).mp h75
        have hyn : n * y = N := by rw [show y = n by omega]; rcases hn with ⟨rfl, rfl⟩ | ⟨rfl, rfl⟩ <;> rfl
        rw [hyn] at hR0 hU0
        refine r_pl (f' := fun u => nO (unF n u)) (fun u h1 j h2 => hU0 u j h1 h2 (unF_lt hn h1 h2)) ?_
        refine r_arrI 1 rfl (fun c q => (hR0 c q).1) (ws' := ([(aG, .inr (5, [.int (nI n), .int (nI N), .int (nI (2 ^ n - 1)), .ref gr, .ref gc, .ref gb, .ref gu])), (gr, .inl (X.1.2.1, N, .inl (gR n))), (gc, .inl (X.1.2.1, N, .inl fc1)), (gb, .inl (X.1.2.1, N, .inl fb1)), (gu, .inl (X.1.2.2.2.1, 3 * n, .inr (.inr (.inr (.inr (fun j => some (ra j)))))))] ++ ww_pl X.1.2.1 n (3 * n) ra (fun u => nO (unF n u)))) rfl ?_
        refine r_arrI 2 rfl (fun c q => (hR0 c q).2.1) (ws' := ([(aG, .inr (5, [.int (nI n), .int (nI N), .int (nI (2 ^ n - 1)), .ref gr, .ref gc, .ref gb, .ref gu])), (gr, .inl (X.1.2.1, N, .inl (gR n))), (gc, .inl (X.1.2.1, N, .inl (gC n))), (gb, .inl (X.1.2.1, N, .inl fb1)), (gu, .inl (X.1.2.2.2.1, 3 * n, .inr (.inr (.inr (.inr (fun j => some (ra j)))))))] ++ ww_pl X.1.2.1 n (3 * n) ra (fun u => nO (unF n u)))) rfl ?_
        refine r_arrI 3 rfl (fun c q => (hR0 c q).2.2) (ws' := ([(aG, .inr (5, [.int (nI n), .int (nI N), .int (nI (2 ^ n - 1)), .ref gr, .ref gc, .ref gb, .ref gu])), (gr, .inl (X.1.2.1, N, .inl (gR n))), (gc, .inl (X.1.2.1, N, .inl (gC n))), (gb, .inl (X.1.2.1, N, .inl (gB n))), (gu, .inl (X.1.2.2.2.1, 3 * n, .inr (.inr (.inr (.inr (fun j => some (ra j)))))))] ++ ww_pl X.1.2.1 n (3 * n) ra (fun u => nO (unF n u)))) rfl ?_
        exact hret _ _ _ (gr, gc, gb, gu, ra) rfl (Or.inl ⟨rfl, rfl, dX4_init_229⟩)
      · have h75 : ¬ (n ≤ y) := fun e9 => h75 ((nI_leI (by omega) (by omega)).mpr e9)
        refine r_iconst C dX4_init_78 (v := nI 0) (by decide) ?_
        refine r_istore C dX4_init_79 (by decide) [1, 2, 3, 4, 0] (lv' := [(0, .ref aG), (1, .int (nI n)), (2, .int (nI (n / 2))), (3, .int (nI y)), (4, .int (nI 0))]) rfl ?_
        have L81 : ∀ (d81 : Nat) (x : Nat) (fr2 : Nat → Int32) (fc2 : Nat → Int32) (fb2 : Nat → Int32) (f2 : Nat → Nat → Int32), (n - x) < d81 → (x ≤ n) → (∀ c, c < n * y + x → fr2 c = nI (c / n) ∧ fc2 c = nI (c % n) ∧ fb2 c = nI (bx n c)) → (∀ u j, u < 3 * n → j < n → unF n u j < n * y + x → f2 u j = nI (unF n u j)) → RW X 22 234 81 [(0, .ref aG), (1, .int (nI n)), (2, .int (nI (n / 2))), (3, .int (nI y)), (4, .int (nI x))] [] ([(aG, .inr (5, [.int (nI n), .int (nI N), .int (nI (2 ^ n - 1)), .ref gr, .ref gc, .ref gb, .ref gu])), (gr, .inl (X.1.2.1, N, .inl fr2)), (gc, .inl (X.1.2.1, N, .inl fc2)), (gb, .inl (X.1.2.1, N, .inl fb2)), (gu, .inl (X.1.2.2.2.1, 3 * n, .inr (.inr (.inr (.inr (fun j => some (ra j)))))))] ++ ww_pl X.1.2.1 n (3 * n) ra f2) := by
          intro d81
          induction d81 with
          | zero => intro x fr2 fc2 fb2 f2 hd81; exact absurd hd81 (Nat.not_lt_zero _)
          | succ d81 ih81 =>
            intro x fr2 fc2 fb2 f2 hd81 hx hR hU
            refine r_iload C dX4_init_81 4 rfl ?_
            refine r_iload_n C dX4_init_83 1 rfl rfl ?_
            refine r_icmp_ge (tgt := 223) C dX4_init_84 (by decide) (fun h84 => ?_) (fun h84 => ?_)
            · have h84 : n ≤ x := (nI_leI (by omega) (by omega)).mp h84
              refine r_iinc C dX4_init_223 3 rfl (v := nI (y + 1)) (nI_add _ _) (by decide) [1, 2, 3, 0, 4] (lv' := [(0, .ref aG), (1, .int (nI n)), (2, .int (nI (n / 2))), (3, .int (nI (y + 1))), (4, .int (nI x))]) rfl ?_
              refine r_goto (tgt := 73) C dX4_init_226 (by decide) ?_
              refine r_lv [0, 1, 2, 3] (lv' := [(0, .ref aG), (1, .int (nI n)), (2, .int (nI (n / 2))), (3, .int (nI (y + 1)))]) rfl ?_
              exact ih73 (y + 1) fr2 fc2 fb2 f2 (by omega) (by omega) (fun c q => hR c (by rw [Nat.mul_succ] at q; omega)) (fun u j h1 h2 q => hU u j h1 h2 (by rw [Nat.mul_succ] at q; omega))
            · have h84 : ¬ (n ≤ x) := fun e9 => h84 ((nI_leI (by omega) (by omega)).mpr e9)
              have hcl := cell_lt hn (show y < n by omega) (show x < n by omega)
              have hbl := bx_lt hn hcl
              refine r_iload_n C dX4_init_87 1 rfl rfl ?_
              refine r_iload_n C dX4_init_88 3 rfl rfl ?_
              refine r_imul C dX4_init_89 (v := nI (n * y)) (pk_mul _ _) ?_
              refine r_iload C dX4_init_90 4 rfl ?_
              refine r_iadd C dX4_init_92 (v := nI ((n * y) + x)) (nI_add _ _) ?_
              refine r_istore C dX4_init_93 (by decide) [1, 2, 3, 4, 5, 0] (lv' := [(0, .ref aG), (1, .int (nI n)), (2, .int (nI (n / 2))), (3, .int (nI y)), (4, .int (nI x)), (5, .int (nI ((n * y) + x)))]) rfl ?_
              refine r_iload_n C dX4_init_95 3 rfl rfl ?_
              refine r_iconst C dX4_init_96 (v := nI 2) (by decide) ?_
              refine r_idiv C dX4_init_97 (nI_ne0 (by omega) (by omega)) (v := nI (y / 2)) (pk_div (by omega) (by omega) (by omega)) ?_
              refine r_iconst C dX4_init_98 (v := nI 2) (by decide) ?_
              refine r_imul C dX4_init_99 (v := nI ((y / 2) * 2)) (pk_mul _ _) ?_
              refine r_istore C dX4_init_100 (by decide) [1, 2, 3, 4, 5, 6, 0] (lv' := [(0, .ref aG), (1, .int (nI n)), (2, .int (nI (n / 2))), (3, .int (nI y)), (4, .int (nI x)), (5, .int (nI ((n * y) + x))), (6, .int (nI ((y / 2) * 2)))]) rfl ?_
              refine r_iload C dX4_init_102 4 rfl ?_
              refine r_iload_n C dX4_init_104 2 rfl rfl ?_
              refine r_icmp_lt (tgt := 112) C dX4_init_105 (by decide) (fun h105 => ?_) (fun h105 => ?_)
              · have h105 : x < (n / 2) := (nI_ltI (by omega) (by omega)).mp h105
                refine r_iconst C dX4_init_112 (v := nI 0) (by decide) ?_
                refine r_istore C dX4_init_113 (by decide) [1, 2, 3, 4, 5, 6, 7, 0] (lv' := [(0, .ref aG), (1, .int (nI n)), (2, .int (nI (n / 2))), (3, .int (nI y)), (4, .int (nI x)), (5, .int (nI ((n * y) + x))), (6, .int (nI ((y / 2) * 2))), (7, .int (nI 0))]) rfl ?_
                refine r_aload_n C dX4_init_115 0 rfl rfl ?_
                refine r_get C dX4_init_116 iX4_init_X4 3 fX4_init_19 0 rfl rfl (by decide) rfl ?_
                refine r_iload C dX4_init_119 5 rfl ?_
                refine r_iload_n C dX4_init_121 3 rfl rfl ?_
                refine r_iast C dX4_init_122 1 rfl hcl (by omega) (ws' := ([(aG, .inr (5, [.int (nI n), .int (nI N), .int (nI (2 ^ n - 1)), .ref gr, .ref gc, .ref gb, .ref gu])), (gr, .inl (X.1.2.1, N, .inl (upd fr2 ((n * y) + x) (nI y)))), (gc, .inl (X.1.2.1, N, .inl fc2)), (gb, .inl (X.1.2.1, N, .inl fb2)), (gu, .inl (X.1.2.2.2.1, 3 * n, .inr (.inr (.inr (.inr (fun j => some (ra j)))))))] ++ ww_pl X.1.2.1 n (3 * n) ra f2)) rfl ?_
                refine r_aload_n C dX4_init_123 0 rfl rfl ?_
                refine r_get C dX4_init_124 iX4_init_X4 4 fX4_init_23 0 rfl rfl (by decide) rfl ?_
                refine r_iload C dX4_init_127 5 rfl ?_
                refine r_iload C dX4_init_129 4 rfl ?_
                refine r_iast C dX4_init_131 2 rfl hcl (by omega) (ws' := ([(aG, .inr (5, [.int (nI n), .int (nI N), .int (nI (2 ^ n - 1)), .ref gr, .ref gc, .ref gb, .ref gu])), (gr, .inl (X.1.2.1, N, .inl (upd fr2 ((n * y) + x) (nI y)))), (gc, .inl (X.1.2.1, N, .inl (upd fc2 ((n * y) + x) (nI x)))), (gb, .inl (X.1.2.1, N, .inl fb2)), (gu, .inl (X.1.2.2.2.1, 3 * n, .inr (.inr (.inr (.inr (fun j => some (ra j)))))))] ++ ww_pl X.1.2.1 n (3 * n) ra f2)) rfl ?_
                refine r_aload_n C dX4_init_132 0 rfl rfl ?_
                refine r_get C dX4_init_133 iX4_init_X4 5 fX4_init_26 0 rfl rfl (by decide) rfl ?_
                refine r_iload C dX4_init_136 5 rfl ?_
                refine r_iload C dX4_init_138 7 rfl ?_
                refine r_if_eq (tgt := 150) C dX4_init_140 (by decide) (fun h140 => ?_) (fun h140 => ?_)
                · have h140 : 0 = 0 := (nI_eq (b := 0) (by omega) (by omega)).mp h140
                  refine r_iload C dX4_init_150 6 rfl ?_
                  refine r_top (y := nI (bx n (n * y + x))) (congrArg nI (bxv_t (show x < n by omega) h105)) ?_
                  refine r_iast C dX4_init_152 3 rfl hcl (by omega) (ws' := ([(aG, .inr (5, [.int (nI n), .int (nI N), .int (nI (2 ^ n - 1)), .ref gr, .ref gc, .ref gb, .ref gu])), (gr, .inl (X.1.2.1, N, .inl (upd fr2 ((n * y) + x) (nI y)))), (gc, .inl (X.1.2.1, N, .inl (upd fc2 ((n * y) + x) (nI x)))), (gb, .inl (X.1.2.1, N, .inl (upd fb2 ((n * y) + x) (nI (bx n (n * y + x)))))), (gu, .inl (X.1.2.2.2.1, 3 * n, .inr (.inr (.inr (.inr (fun j => some (ra j)))))))] ++ ww_pl X.1.2.1 n (3 * n) ra f2)) rfl ?_
                  refine r_aload_n C dX4_init_153 0 rfl rfl ?_
                  refine r_get C dX4_init_154 iX4_init_X4 6 fX4_init_31 0 rfl rfl (by decide) rfl ?_
                  refine r_iload_n C dX4_init_157 3 rfl rfl ?_
                  refine r_aald C dX4_init_158 4 rfl (by omega) (by omega) ?_
                  refine r_iload C dX4_init_159 4 rfl ?_
                  refine r_iload C dX4_init_161 5 rfl ?_
                  refine r_iastP (u := y) (j := x) C dX4_init_163 (by omega) (by omega) (by omega) ?_
                  refine r_aload_n C dX4_init_164 0 rfl rfl ?_
                  refine r_get C dX4_init_165 iX4_init_X4 6 fX4_init_31 0 rfl rfl (by decide) rfl ?_
                  refine r_iload_n C dX4_init_168 1 rfl rfl ?_
                  refine r_iload C dX4_init_169 4 rfl ?_
                  refine r_iadd C dX4_init_171 (v := nI (n + x)) (nI_add _ _) ?_
                  refine r_aald C dX4_init_172 4 rfl (by omega) (by omega) ?_
                  refine r_iload_n C dX4_init_173 3 rfl rfl ?_
                  refine r_iload C dX4_init_174 5 rfl ?_
                  refine r_iastP (u := (n + x)) (j := y) C dX4_init_176 (by omega) (by omega) (by omega) ?_
                  refine r_aload_n C dX4_init_177 0 rfl rfl ?_
                  refine r_get C dX4_init_178 iX4_init_X4 6 fX4_init_31 0 rfl rfl (by decide) rfl ?_
                  refine r_iconst C dX4_init_181 (v := nI 2) (by decide) ?_
                  refine r_iload_n C dX4_init_182 1 rfl rfl ?_
                  refine r_imul C dX4_init_183 (v := nI (2 * n)) (pk_mul _ _) ?_
                  refine r_aload_n C dX4_init_184 0 rfl rfl ?_
                  refine r_get C dX4_init_185 iX4_init_X4 5 fX4_init_26 0 rfl rfl (by decide) rfl ?_
                  refine r_iload C dX4_init_188 5 rfl ?_
                  refine r_iald C dX4_init_190 3 rfl hcl (by omega) ?_
                  refine r_top (y := nI (bx n (n * y + x))) (by simp [upd]) ?_
                  refine r_iadd C dX4_init_191 (v := nI ((2 * n) + (bx n (n * y + x)))) (nI_add _ _) ?_
                  refine r_aald C dX4_init_192 4 rfl (by omega) (by omega) ?_
                  refine r_iload_n C dX4_init_193 3 rfl rfl ?_
                  refine r_iload C dX4_init_194 6 rfl ?_
                  refine r_isub C dX4_init_196 (v := nI (y - ((y / 2) * 2))) (pk_sub (by omega)) ?_
                  refine r_iload_n C dX4_init_197 2 rfl rfl ?_
                  refine r_imul C dX4_init_198 (v := nI ((y - ((y / 2) * 2)) * (n / 2))) (pk_mul _ _) ?_
                  refine r_iload C dX4_init_199 7 rfl ?_
                  refine r_if_eq (tgt := 211) C dX4_init_201 (by decide) (fun h201 => ?_) (fun h201 => ?_)
                  · have h201 : 0 = 0 := (nI_eq (b := 0) (by omega) (by omega)).mp h201
                    refine r_iload C dX4_init_211 4 rfl ?_
                    refine r_iadd C dX4_init_213 (v := nI (((y - ((y / 2) * 2)) * (n / 2)) + x)) (nI_add _ _) ?_
                    have hbj : ((y - ((y / 2) * 2)) * (n / 2)) + x < n := boxj_t hn (by omega) h105
                    refine r_iload C dX4_init_214 5 rfl ?_
                    refine r_iastP (u := ((2 * n) + (bx n (n * y + x)))) (j := (((y - ((y / 2) * 2)) * (n / 2)) + x)) C dX4_init_216 (by omega) hbj (by omega) ?_
                    refine r_iinc C dX4_init_217 4 rfl (v := nI (x + 1)) (nI_add _ _) (by decide) [1, 2, 3, 4, 0, 5, 6, 7] (lv' := [(0, .ref aG), (1, .int (nI n)), (2, .int (nI (n / 2))), (3, .int (nI y)), (4, .int (nI (x + 1))), (5, .int (nI ((n * y) + x))), (6, .int (nI ((y / 2) * 2))), (7, .int (nI 0))]) rfl ?_
                    refine r_goto (tgt := 81) C dX4_init_220 (by decide) ?_
                    refine r_lv [0, 1, 2, 3, 4] (lv' := [(0, .ref aG), (1, .int (nI n)), (2, .int (nI (n / 2))), (3, .int (nI y)), (4, .int (nI (x + 1)))]) rfl ?_
                    exact ih81 (x + 1) (upd fr2 ((n * y) + x) (nI y)) (upd fc2 ((n * y) + x) (nI x)) (upd fb2 ((n * y) + x) (nI (bx n (n * y + x)))) (fun v => if v = ((2 * n) + (bx n (n * y + x))) then upd ((fun v => if v = (n + x) then upd ((fun v => if v = y then upd (f2 y) x (nI ((n * y) + x)) else f2 v) (n + x)) y (nI ((n * y) + x)) else (fun v => if v = y then upd (f2 y) x (nI ((n * y) + x)) else f2 v) v) ((2 * n) + (bx n (n * y + x)))) (((y - ((y / 2) * 2)) * (n / 2)) + x) (nI ((n * y) + x)) else (fun v => if v = (n + x) then upd ((fun v => if v = y then upd (f2 y) x (nI ((n * y) + x)) else f2 v) (n + x)) y (nI ((n * y) + x)) else (fun v => if v = y then upd (f2 y) x (nI ((n * y) + x)) else f2 v) v) v) (by omega) (by omega) (gr_S hn (by omega) (by omega) hR) (un_S (f := f2) hn (by omega) (by omega) hU (boxp_t hn (by omega) (by omega) h105))
                  · have h201 : ¬ (0 = 0) := fun e9 => h201 ((nI_eq (b := 0) (by omega) (by omega)).mpr e9)
                    exact absurd rfl h201
                · have h140 : ¬ (0 = 0) := fun e9 => h140 ((nI_eq (b := 0) (by omega) (by omega)).mpr e9)
                  exact absurd rfl h140
              · have h105 : ¬ (x < (n / 2)) := fun e9 => h105 ((nI_ltI (by omega) (by omega)).mpr e9)
                refine r_iconst C dX4_init_108 (v := nI 1) (by decide) ?_
                refine r_goto (tgt := 113) C dX4_init_109 (by decide) ?_
                refine r_istore C dX4_init_113 (by decide) [1, 2, 3, 4, 5, 6, 7, 0] (lv' := [(0, .ref aG), (1, .int (nI n)), (2, .int (nI (n / 2))), (3, .int (nI y)), (4, .int (nI x)), (5, .int (nI ((n * y) + x))), (6, .int (nI ((y / 2) * 2))), (7, .int (nI 1))]) rfl ?_
                refine r_aload_n C dX4_init_115 0 rfl rfl ?_
                refine r_get C dX4_init_116 iX4_init_X4 3 fX4_init_19 0 rfl rfl (by decide) rfl ?_
                refine r_iload C dX4_init_119 5 rfl ?_
                refine r_iload_n C dX4_init_121 3 rfl rfl ?_
                refine r_iast C dX4_init_122 1 rfl hcl (by omega) (ws' := ([(aG, .inr (5, [.int (nI n), .int (nI N), .int (nI (2 ^ n - 1)), .ref gr, .ref gc, .ref gb, .ref gu])), (gr, .inl (X.1.2.1, N, .inl (upd fr2 ((n * y) + x) (nI y)))), (gc, .inl (X.1.2.1, N, .inl fc2)), (gb, .inl (X.1.2.1, N, .inl fb2)), (gu, .inl (X.1.2.2.2.1, 3 * n, .inr (.inr (.inr (.inr (fun j => some (ra j)))))))] ++ ww_pl X.1.2.1 n (3 * n) ra f2)) rfl ?_
                refine r_aload_n C dX4_init_123 0 rfl rfl ?_
                refine r_get C dX4_init_124 iX4_init_X4 4 fX4_init_23 0 rfl rfl (by decide) rfl ?_
                refine r_iload C dX4_init_127 5 rfl ?_
                refine r_iload C dX4_init_129 4 rfl ?_
                refine r_iast C dX4_init_131 2 rfl hcl (by omega) (ws' := ([(aG, .inr (5, [.int (nI n), .int (nI N), .int (nI (2 ^ n - 1)), .ref gr, .ref gc, .ref gb, .ref gu])), (gr, .inl (X.1.2.1, N, .inl (upd fr2 ((n * y) + x) (nI y)))), (gc, .inl (X.1.2.1, N, .inl (upd fc2 ((n * y) + x) (nI x)))), (gb, .inl (X.1.2.1, N, .inl fb2)), (gu, .inl (X.1.2.2.2.1, 3 * n, .inr (.inr (.inr (.inr (fun j => some (ra j)))))))] ++ ww_pl X.1.2.1 n (3 * n) ra f2)) rfl ?_
                refine r_aload_n C dX4_init_132 0 rfl rfl ?_
                refine r_get C dX4_init_133 iX4_init_X4 5 fX4_init_26 0 rfl rfl (by decide) rfl ?_
                refine r_iload C dX4_init_136 5 rfl ?_
                refine r_iload C dX4_init_138 7 rfl ?_
                refine r_if_eq (tgt := 150) C dX4_init_140 (by decide) (fun h140 => ?_) (fun h140 => ?_)
                · have h140 : 1 = 0 := (nI_eq (b := 0) (by omega) (by omega)).mp h140
                  exact absurd h140 (by omega)
                · have h140 : ¬ (1 = 0) := fun e9 => h140 ((nI_eq (b := 0) (by omega) (by omega)).mpr e9)
                  refine r_iload C dX4_init_143 6 rfl ?_
                  refine r_iconst C dX4_init_145 (v := nI 1) (by decide) ?_
                  refine r_iadd C dX4_init_146 (v := nI (((y / 2) * 2) + 1)) (nI_add _ _) ?_
                  refine r_goto (tgt := 152) C dX4_init_147 (by decide) ?_
                  refine r_top (y := nI (bx n (n * y + x))) (congrArg nI (bxv_f (show x < n by omega) h105)) ?_
                  refine r_iast C dX4_init_152 3 rfl hcl (by omega) (ws' := ([(aG, .inr (5, [.int (nI n), .int (nI N), .int (nI (2 ^ n - 1)), .ref gr, .ref gc, .ref gb, .ref gu])), (gr, .inl (X.1.2.1, N, .inl (upd fr2 ((n * y) + x) (nI y)))), (gc, .inl (X.1.2.1, N, .inl (upd fc2 ((n * y) + x) (nI x)))), (gb, .inl (X.1.2.1, N, .inl (upd fb2 ((n * y) + x) (nI (bx n (n * y + x)))))), (gu, .inl (X.1.2.2.2.1, 3 * n, .inr (.inr (.inr (.inr (fun j => some (ra j)))))))] ++ ww_pl X.1.2.1 n (3 * n) ra f2)) rfl ?_
                  refine r_aload_n C dX4_init_153 0 rfl rfl ?_
                  refine r_get C dX4_init_154 iX4_init_X4 6 fX4_init_31 0 rfl rfl (by decide) rfl ?_
                  refine r_iload_n C dX4_init_157 3 rfl rfl ?_
                  refine r_aald C dX4_init_158 4 rfl (by omega) (by omega) ?_
                  refine r_iload C dX4_init_159 4 rfl ?_
                  refine r_iload C dX4_init_161 5 rfl ?_
                  refine r_iastP (u := y) (j := x) C dX4_init_163 (by omega) (by omega) (by omega) ?_
                  refine r_aload_n C dX4_init_164 0 rfl rfl ?_
                  refine r_get C dX4_init_165 iX4_init_X4 6 fX4_init_31 0 rfl rfl (by decide) rfl ?_
                  refine r_iload_n C dX4_init_168 1 rfl rfl ?_
                  refine r_iload C dX4_init_169 4 rfl ?_
                  refine r_iadd C dX4_init_171 (v := nI (n + x)) (nI_add _ _) ?_
                  refine r_aald C dX4_init_172 4 rfl (by omega) (by omega) ?_
                  refine r_iload_n C dX4_init_173 3 rfl rfl ?_
                  refine r_iload C dX4_init_174 5 rfl ?_
                  refine r_iastP (u := (n + x)) (j := y) C dX4_init_176 (by omega) (by omega) (by omega) ?_
                  refine r_aload_n C dX4_init_177 0 rfl rfl ?_
                  refine r_get C dX4_init_178 iX4_init_X4 6 fX4_init_31 0 rfl rfl (by decide) rfl ?_
                  refine r_iconst C dX4_init_181 (v := nI 2) (by decide) ?_
                  refine r_iload_n C dX4_init_182 1 rfl rfl ?_
                  refine r_imul C dX4_init_183 (v := nI (2 * n)) (pk_mul _ _) ?_
                  refine r_aload_n C dX4_init_184 0 rfl rfl ?_
                  refine r_get C dX4_init_185 iX4_init_X4 5 fX4_init_26 0 rfl rfl (by decide) rfl ?_
                  refine r_iload C dX4_init_188 5 rfl ?_
                  refine r_iald C dX4_init_190 3 rfl hcl (by omega) ?_
                  refine r_top (y := nI (bx n (n * y + x))) (by simp [upd]) ?_
                  refine r_iadd C dX4_init_191 (v := nI ((2 * n) + (bx n (n * y + x)))) (nI_add _ _) ?_
                  refine r_aald C dX4_init_192 4 rfl (by omega) (by omega) ?_
                  refine r_iload_n C dX4_init_193 3 rfl rfl ?_
                  refine r_iload C dX4_init_194 6 rfl ?_
                  refine r_isub C dX4_init_196 (v := nI (y - ((y / 2) * 2))) (pk_sub (by omega)) ?_
                  refine r_iload_n C dX4_init_197 2 rfl rfl ?_
                  refine r_imul C dX4_init_198 (v := nI ((y - ((y / 2) * 2)) * (n / 2))) (pk_mul _ _) ?_
                  refine r_iload C dX4_init_199 7 rfl ?_
                  refine r_if_eq (tgt := 211) C dX4_init_201 (by decide) (fun h201 => ?_) (fun h201 => ?_)
                  · have h201 : 1 = 0 := (nI_eq (b := 0) (by omega) (by omega)).mp h201
                    exact absurd h201 (by omega)
                  · have h201 : ¬ (1 = 0) := fun e9 => h201 ((nI_eq (b := 0) (by omega) (by omega)).mpr e9)
                    refine r_iload C dX4_init_204 4 rfl ?_
                    refine r_iload_n C dX4_init_206 2 rfl rfl ?_
                    refine r_isub C dX4_init_207 (v := nI (x - (n / 2))) (pk_sub (by omega)) ?_
                    refine r_goto (tgt := 213) C dX4_init_208 (by decide) ?_
                    refine r_iadd C dX4_init_213 (v := nI (((y - ((y / 2) * 2)) * (n / 2)) + (x - (n / 2)))) (nI_add _ _) ?_
                    have hbj : ((y - ((y / 2) * 2)) * (n / 2)) + (x - (n / 2)) < n := boxj_f hn (by omega) (by omega) h105
                    refine r_iload C dX4_init_214 5 rfl ?_
                    refine r_iastP (u := ((2 * n) + (bx n (n * y + x)))) (j := (((y - ((y / 2) * 2)) * (n / 2)) + (x - (n / 2)))) C dX4_init_216 (by omega) hbj (by omega) ?_
                    refine r_iinc C dX4_init_217 4 rfl (v := nI (x + 1)) (nI_add _ _) (by decide) [1, 2, 3, 4, 0, 5, 6, 7] (lv' := [(0, .ref aG), (1, .int (nI n)), (2, .int (nI (n / 2))), (3, .int (nI y)), (4, .int (nI (x + 1))), (5, .int (nI ((n * y) + x))), (6, .int (nI ((y / 2) * 2))), (7, .int (nI 1))]) rfl ?_
                    refine r_goto (tgt := 81) C dX4_init_220 (by decide) ?_
                    refine r_lv [0, 1, 2, 3, 4] (lv' := [(0, .ref aG), (1, .int (nI n)), (2, .int (nI (n / 2))), (3, .int (nI y)), (4, .int (nI (x + 1)))]) rfl ?_
                    exact ih81 (x + 1) (upd fr2 ((n * y) + x) (nI y)) (upd fc2 ((n * y) + x) (nI x)) (upd fb2 ((n * y) + x) (nI (bx n (n * y + x)))) (fun v => if v = ((2 * n) + (bx n (n * y + x))) then upd ((fun v => if v = (n + x) then upd ((fun v => if v = y then upd (f2 y) x (nI ((n * y) + x)) else f2 v) (n + x)) y (nI ((n * y) + x)) else (fun v => if v = y then upd (f2 y) x (nI ((n * y) + x)) else f2 v) v) ((2 * n) + (bx n (n * y + x)))) (((y - ((y / 2) * 2)) * (n / 2)) + (x - (n / 2))) (nI ((n * y) + x)) else (fun v => if v = (n + x) then upd ((fun v => if v = y then upd (f2 y) x (nI ((n * y) + x)) else f2 v) (n + x)) y (nI ((n * y) + x)) else (fun v => if v = y then upd (f2 y) x (nI ((n * y) + x)) else f2 v) v) v) (by omega) (by omega) (gr_S hn (by omega) (by omega) hR) (un_S (f := f2) hn (by omega) (by omega) hU (boxp_f hn (by omega) (by omega) h105))
        exact L81 ((n - 0) + 1) 0 fr1 fc1 fb1 f1 (Nat.lt_succ_self _) (Nat.zero_le _) hR0 hU0
  exact L73 ((n - 0) + 1) 0 (fun _ => 0) (fun _ => 0) (fun _ => 0) (fun _ _ => 0) (Nat.lt_succ_self _) (Nat.zero_le _) (fun c q => absurd q (Nat.not_lt_zero c)) (fun u j _ _ q => absurd q (Nat.not_lt_zero _))
