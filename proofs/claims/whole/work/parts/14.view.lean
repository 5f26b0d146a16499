/-! THE LAND AS A VIEW: v c i j, a number each: 0 KINDS, 1 GOODS, 2 PEOPLE, 3 CALM, 4 FEE, 5 WAR, 6 MONTH, 7 LEVEL, 8 the soldiers', 9 WORTH of a kind, 10 VALUE, 11 STOCK, 12 SILVER, 13 whole sheets, 14 torn ones, 15 goods of a person; 16 printed, 17 burned -/
abbrev xV : Type := Nat → Nat → Nat → Nat
def v_set (v : xV) (c i j x : Nat) : xV := fun c' i' j' => if c' = c ∧ i' = i ∧ j' = j then x else v c' i' j'
theorem v_set_s (v : xV) (c i j x : Nat) : v_set v c i j x c i j = x := by simp [v_set]
theorem v_set_n {v : xV} {c i j x c' i' j' : Nat} (h : ¬ (c' = c ∧ i' = i ∧ j' = j)) : v_set v c i j x c' i' j' = v c' i' j' := by simp only [v_set, h, if_false]
theorem v_set_c {v : xV} {c i j x c' i' j' : Nat} (h : c' ≠ c) : v_set v c i j x c' i' j' = v c' i' j' := v_set_n (fun q => h q.1)
def v_ok (v : xV) (c i j : Nat) : Prop := if c ≤ 8 then i = 0 ∧ j = 0 else if c = 9 then i < v 0 0 0 ∧ j = 0 else if c ≤ 11 then i < v 1 0 0 ∧ j = 0 else if c = 12 then i < v 2 0 0 ∧ j = 0 else if c ≤ 14 then i < v 2 0 0 ∧ j < v 0 0 0 else c = 15 ∧ i < v 2 0 0 ∧ j < v 1 0 0
def v_cell (L c : Nat) : Nat := if c ≤ 2 then L else if c ≤ 5 then L + 1 else if c ≤ 8 then L else L + (c - 6)
def v_pl (c i j : Nat) : Nat := if c ≤ 2 then c else if c ≤ 8 then c - 3 else if c ≤ 12 then i else if c ≤ 14 then 4 * i + j else 5 * i + j
def v_pm (c i j : Nat) : Nat := if c ≤ 8 then c else if c = 9 then 12 + i else if c = 10 then 16 + 2 * i else if c = 11 then 17 + 2 * i else if c = 12 then 26 + 14 * i else if c = 13 then 27 + 14 * i + j else if c = 14 then 31 + 14 * i + j else 35 + 14 * i + j
/-- the class's land at the cell L shows v -/
def v_C (f : Nat → Nat → Int32) (g : Nat → Nat → Int64) (L : Nat) (v : xV) : Prop := (∀ c i j, v_ok v c i j → f (v_cell L c) (v_pl c i j) = nI (v c i j)) ∧ g L 6 = lN (v 16 0 0) ∧ g L 7 = lN (v 17 0 0)
/-- the model's slot from b on shows v -/
def v_M (a : Nat → Int32) (b : Nat) (v : xV) : Prop := (∀ c i j, v_ok v c i j → a (b + v_pm c i j) = nI (v c i j)) ∧ a (b + 9) = nI (min 999999999 (v 16 0 0)) ∧ a (b + 10) = nI (min 999999999 (v 17 0 0))
def v_lo (c : Nat) : Nat := if c = 3 then 10 else if c = 7 then 1 else if c = 9 then 1 else if c = 10 then 1 else 0
def v_hi (c : Nat) : Nat := if c = 0 then 4 else if c ≤ 2 then 5 else if c = 4 then 50 else if c = 5 then 999 else if c = 7 then 21000000 else if c = 8 then 9989001 else if c = 9 then 500 else if c = 10 then 99 else if c = 12 then 99999 else 9999
/-- the bounds that the document sets -/
def v_B (v : xV) : Prop := (∀ c i j, v_ok v c i j → v_lo c ≤ v c i j ∧ v c i j ≤ v_hi c) ∧ v 8 0 0 ≤ 999 * v 6 0 0 ∧ v 16 0 0 < 2 ^ 60 ∧ v 17 0 0 < 2 ^ 60
theorem v_B_K {v : xV} (h : v_B v) : v 0 0 0 ≤ 4 := (h.1 0 0 0 ⟨rfl, rfl⟩).2
theorem v_B_G {v : xV} (h : v_B v) : v 1 0 0 ≤ 5 := (h.1 1 0 0 ⟨rfl, rfl⟩).2
theorem v_B_P {v : xV} (h : v_B v) : v 2 0 0 ≤ 5 := (h.1 2 0 0 ⟨rfl, rfl⟩).2
theorem v_ok_le {v : xV} {c i j : Nat} (h : v_ok v c i j) : c ≤ 15 := by
  unfold v_ok at h
  repeat' split at h
  all_goals omega
theorem v_ok_set {v : xV} {c i j x : Nat} (hc : 3 ≤ c) {c' i' j' : Nat} : v_ok (v_set v c i j x) c' i' j' ↔ v_ok v c' i' j' := by
  unfold v_ok
  rw [v_set_c (show (0 : Nat) ≠ c by omega), v_set_c (show (1 : Nat) ≠ c by omega), v_set_c (show (2 : Nat) ≠ c by omega)]
theorem v_pl_inj {v : xV} (hK : v 0 0 0 ≤ 4) (hG : v 1 0 0 ≤ 5) {L c i j c' i' j' : Nat} (h : v_ok v c i j) (h' : v_ok v c' i' j') (hc : v_cell L c = v_cell L c') (hp : v_pl c i j = v_pl c' i' j') : c' = c ∧ i' = i ∧ j' = j := by
  have e1 := v_ok_le h
  have e2 := v_ok_le h'
  unfold v_ok at h h'
  unfold v_cell at hc
  unfold v_pl at hp
  repeat' split at h
  all_goals (repeat' split at h')
  all_goals (repeat' split at hc)
  all_goals first | omega | ((repeat' split at hp) <;> omega)
theorem v_pm_inj {v : xV} (hK : v 0 0 0 ≤ 4) (hG : v 1 0 0 ≤ 5) (hP : v 2 0 0 ≤ 5) {c i j c' i' j' : Nat} (h : v_ok v c i j) (h' : v_ok v c' i' j') (hp : v_pm c i j = v_pm c' i' j') : c' = c ∧ i' = i ∧ j' = j := by
  have e1 := v_ok_le h
  have e2 := v_ok_le h'
  unfold v_ok at h h'
  unfold v_pm at hp
  repeat' split at h
  all_goals (repeat' split at h')
  all_goals first | omega | ((repeat' split at hp) <;> omega)
theorem v_pm_lt {v : xV} (hK : v 0 0 0 ≤ 4) (hG : v 1 0 0 ≤ 5) (hP : v 2 0 0 ≤ 5) {c i j : Nat} (h : v_ok v c i j) : v_pm c i j < 96 ∧ v_pm c i j ≠ 9 ∧ v_pm c i j ≠ 10 ∧ v_pm c i j ≠ 11 := by
  have e1 := v_ok_le h
  unfold v_ok at h
  unfold v_pm
  repeat' split at h
  all_goals (repeat' split)
  all_goals omega
