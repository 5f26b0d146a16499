theorem x_bi {b : Bool} {P : Prop} (h : b = true) (p : P) : x_b b P := by rw [h]; exact p
theorem x_oi {α : Type} {o : Option α} {k : α → Prop} {x : α} (h : o = some x) (p : k x) : x_opt o k := by rw [h]; exact p
theorem x_up_s {α : Type} (f : Nat → Nat → α) (k j : Nat) (v : α) : x_up f k j v k j = v := by unfold x_up; rw [x_us, x_us]
theorem x_up_k {α : Type} {f : Nat → Nat → α} {k j a : Nat} {v : α} (h : a ≠ k) : x_up f k j v a = f a := by unfold x_up; exact x_un h
theorem x_up_j {α : Type} {f : Nat → Nat → α} {k j b : Nat} {v : α} (h : b ≠ j) : x_up f k j v k b = f k b := by unfold x_up; rw [x_us, x_un h]
theorem x_up_c {α : Type} {f : Nat → Nat → α} {k j : Nat} {v : α} : x_up f k j v k = va_up (f k) j v := by unfold x_up; exact x_us
theorem v_C_set {f : Nat → Nat → Int32} {g : Nat → Nat → Int64} {L : Nat} {v : xV} (h : v_C f g L v) (hK : v 0 0 0 ≤ 4) (hG : v 1 0 0 ≤ 5) {c i j x : Nat} (hv : v_ok v c i j) (hc : 3 ≤ c) : v_C (x_up f (v_cell L c) (v_pl c i j) (nI x)) g L (v_set v c i j x) := by
  have hc15 := v_ok_le hv
  refine ⟨fun c' i' j' h' => ?_, by rw [v_set_c (by omega)]; exact h.2.1, by rw [v_set_c (by omega)]; exact h.2.2⟩
  have h' := (v_ok_set hc).mp h'
  by_cases e : c' = c ∧ i' = i ∧ j' = j
  · obtain ⟨rfl, rfl, rfl⟩ := e
    rw [x_up_s, v_set_s]
  · rw [v_set_n e, ← h.1 c' i' j' h']
    by_cases e1 : v_cell L c' = v_cell L c
    · rw [e1]
      exact x_up_j (fun e2 => e (v_pl_inj (L := L) hK hG hv h' e1.symm e2.symm))
    · rw [x_up_k e1]
theorem v_M_set {a : Nat → Int32} {b : Nat} {v : xV} (h : v_M a b v) (hK : v 0 0 0 ≤ 4) (hG : v 1 0 0 ≤ 5) (hP : v 2 0 0 ≤ 5) {c i j x : Nat} (hv : v_ok v c i j) (hc : 3 ≤ c) : v_M (va_up a (b + v_pm c i j) (nI x)) b (v_set v c i j x) := by
  have hc15 := v_ok_le hv
  obtain ⟨-, n9, n10, -⟩ := v_pm_lt hK hG hP hv
  refine ⟨fun c' i' j' h' => ?_, by rw [v_set_c (by omega), x_un (by omega)]; exact h.2.1, by rw [v_set_c (by omega), x_un (by omega)]; exact h.2.2⟩
  have h' := (v_ok_set hc).mp h'
  by_cases e : c' = c ∧ i' = i ∧ j' = j
  · obtain ⟨rfl, rfl, rfl⟩ := e
    rw [x_us, v_set_s]
  · rw [v_set_n e, ← h.1 c' i' j' h', x_un (fun e2 => e (v_pm_inj hK hG hP hv h' (by omega)))]
theorem v_B_set {v : xV} (h : v_B v) {c i j x : Nat} (hv : v_ok v c i j) (hc : 3 ≤ c) (h6 : c ≠ 6) (h8 : c ≠ 8) (h1 : v_lo c ≤ x) (h2 : x ≤ v_hi c) : v_B (v_set v c i j x) := by
  have hc15 := v_ok_le hv
  refine ⟨fun c' i' j' h' => ?_, by rw [v_set_c (by omega), v_set_c (by omega)]; exact h.2.1, by rw [v_set_c (by omega)]; exact h.2.2.1, by rw [v_set_c (by omega)]; exact h.2.2.2⟩
  have h' := (v_ok_set hc).mp h'
  by_cases e : c' = c ∧ i' = i ∧ j' = j
  · obtain ⟨rfl, rfl, rfl⟩ := e
    rw [v_set_s]
    exact ⟨h1, h2⟩
  · rw [v_set_n e]
    exact h.1 c' i' j' h'
/-- only the land's own cells are looked at -/
theorem v_cell_in (L : Nat) {v : xV} {c i j : Nat} (h : v_ok v c i j) : L ≤ v_cell L c ∧ v_cell L c ≤ L + 9 := by
  have := v_ok_le h
  unfold v_cell
  repeat' split
  all_goals omega
theorem v_C_fr {f f' : Nat → Nat → Int32} {g g' : Nat → Nat → Int64} {L : Nat} {v : xV} (h : v_C f g L v) (hf : ∀ k, L ≤ k → k ≤ L + 9 → f' k = f k) (hg : g' L = g L) : v_C f' g' L v :=
  ⟨fun c i j hv => by rw [hf _ (v_cell_in L hv).1 (v_cell_in L hv).2]; exact h.1 c i j hv, by rw [hg]; exact h.2.1, by rw [hg]; exact h.2.2⟩
/-! where the references lead: realm r, story t -/
def x_HB (b : Nat) : Option Nat := match b with
  | 3 => some 1
  | 4 => some 10
  | 12 => some 46
  | 13 => some 47
  | 15 => some 99
  | 16 => some 101
  | 17 => some 102
  | 18 => some 104
  | _ => none
def x_H0 (r t b : Nat) : Option Nat := if b = 8 then some r else if b = 9 then some (34 - r) else if b = 10 then some t else if b = 11 then some (71 - t) else x_HB b
def x_HM (b : Nat) : Option Nat := match b with
  | 0 => some 501
  | 1 => some 502
  | 5 => some 503
  | 6 => some 504
  | 7 => some 505
  | 8 => some 506
  | 9 => some 507
  | 21 => some 508
  | 24 => some 509
  | 25 => some 510
  | 26 => some 511
  | 28 => some 512
  | 29 => some 513
  | 30 => some 514
  | 34 => some 515
  | 35 => some 516
  | 36 => some 517
  | _ => none
def x_HO (r t a b : Nat) : Option Nat := match (x_SH a).1 with
  | 0 => if 8 ≤ b ∧ b ≤ 16 then some (a + (b - 7)) else none
  | 4 => if 3 ≤ b ∧ b ≤ 8 then some (a + (b - 2)) else none
  | 8 => if b = 0 then some (a + 1) else none
  | 7 => if b = 0 then some (a + 1) else none
  | 6 => if b = 0 then some (a + 1) else none
  | 3 => if b = 0 then some 99 else none
  | 2 => if b = 0 then some 99 else if b = 1 then some (a + 1) else none
  | 118 => if b < 4 then some (2 + 2 * b) else none
  | 110 => if b < 3 then some (48 + 17 * b) else none
  | 114 => if b < 3 then some (58 + 17 * b) else none
  | 10 => x_HM b
  | 1 => if b = 0 then some 10 else if b = 1 then some (34 - r) else if b = 2 then some (a + 1) else none
  | 5 => if b = 0 then some 10 else if b = 1 then some r else if b = 2 then some (71 - t) else if b = 3 then some (a + 1) else none
  | _ => none
def x_HR (r t a b : Nat) : Option Nat := match a with
  | 0 => x_H0 r t b
  | a + 1 => x_HO r t (a + 1) b
/-- a truth as an int -/
def x_bo (b : Bool) : Int32 := match b with
  | true => 1
  | false => 0
def x_ixb (x : Int32) (N : Nat) : Bool := decide (0 ≤ x.toInt) && decide (x.toInt < N)
theorem x_ixb_t {x : Int32} {N : Nat} (h : x_ixb x N = true) (hN : N < 2 ^ 31) : ∃ j : Nat, j < N ∧ x = nI j := by
  simp only [x_ixb, Bool.and_eq_true, decide_eq_true_eq] at h
  exact vp_in_of (vp_in_iff.mpr h) hN
theorem x_ixb_nI {j N : Nat} (h : j < N) (hN : N < 2 ^ 31) : x_ixb (nI j) N = true := by
  simp only [x_ixb, Bool.and_eq_true, decide_eq_true_eq]
  rw [nI_toInt (by omega)]
  omega
theorem x_ix_nI {j N : Nat} (h : j < N) (hN : N < 2 ^ 31) : x_ix (nI j) N := by
  unfold x_ix
  rw [nI_toInt (by omega)]
  omega
theorem x_i0 : (0 : Int32).toInt = 0 := rfl
theorem x_lt {x y : Int32} : x < y ↔ x.toInt < y.toInt := Int32.lt_iff_toInt_lt
theorem x_le {x y : Int32} : x ≤ y ↔ x.toInt ≤ y.toInt := Int32.le_iff_toInt_le
/-- hasKind, hasGood, hasPerson -/
theorem c_hasKind {d L : Nat} {x : Int32} {h : xH} {N : Nat} (hL : (x_SH L).1 = 0) (hN : x_i h L 0 = nI N) (hN2 : N ≤ 4) : x_Ct 3 d [.ref L, .int x] h (fun q h' => q = some (.int (x_bo (x_ixb x N))) ∧ h' = h) := by
  have hn : (nI N).toInt = N := nI_toInt (by omega)
  refine x_Ct_w (by decide) (Nat.le_of_ble_eq_true rfl) ok3 [] 5 ?_
  refine And.intro (fun c => ?_) (fun c => ?_)
  · have c : x < 0 := c
    rw [x_lt, x_i0] at c
    have hb : x_ixb x N = false := by simp only [x_ixb, Bool.and_eq_false_iff, decide_eq_false_iff_not]; omega
    exact And.intro ⟨by rw [hb]; rfl, rfl⟩ ⟨Or.inl rfl, Nat.le_refl _, Nat.le_refl _⟩
  · have c : ¬ x < 0 := c
    rw [x_lt, x_i0] at c
    refine x_bi (beq_iff_eq.mpr hL) ?_
    refine And.intro (fun c2 => ?_) (fun c2 => ?_)
    · have c2 : x_i h L 0 ≤ x := c2
      rw [hN, x_le, hn] at c2
      have hb : x_ixb x N = false := by simp only [x_ixb, Bool.and_eq_false_iff, decide_eq_false_iff_not]; omega
      exact And.intro ⟨by rw [hb]; rfl, rfl⟩ ⟨Or.inl rfl, Nat.le_refl _, Nat.le_refl _⟩
    · have c2 : ¬ x_i h L 0 ≤ x := c2
      rw [hN, x_le, hn] at c2
      have hb : x_ixb x N = true := by simp only [x_ixb, Bool.and_eq_true, decide_eq_true_eq]; omega
      exact And.intro ⟨by rw [hb]; rfl, rfl⟩ ⟨Or.inr rfl, Nat.le_refl _, Nat.le_refl _⟩
