/-! a land copied onto another -/
def y_len (c : Nat) : Nat := if c = 1 then 3 else if c = 3 then 4 else if c ≤ 6 then 5 else if c ≤ 8 then 20 else 25
def x_CP (f : Nat → Nat → Int32) (g : Nat → Nat → Int64) (A B : Nat) (F : Nat → Nat → Int32) (G : Nat → Nat → Int64) : Prop := (∀ j, j ≤ 5 → F A j = f B j) ∧ (∀ c j, 1 ≤ c → c ≤ 9 → c ≠ 2 → j < y_len c → F (A + c) j = f (B + c) j) ∧ G A 6 = g B 6 ∧ G A 7 = g B 7 ∧ (∀ j, j < 14 → G (A + 2) j = g (B + 2) j) ∧ (∀ c, c < A ∨ A + 9 < c → F c = f c) ∧ ∀ c, c ≠ A → c ≠ A + 2 → G c = g c
theorem x_CP_v {f : Nat → Nat → Int32} {g : Nat → Nat → Int64} {A B : Nat} {F : Nat → Nat → Int32} {G : Nat → Nat → Int64} {v : xV} (h : x_CP f g A B F G) (hC : v_C f g B v) (hB : v_B v) : v_C F G A v := by
  have bK := v_B_K hB
  have bG := v_B_G hB
  have bP := v_B_P hB
  refine ⟨fun c i j hv => ?_, h.2.2.1.trans hC.2.1, h.2.2.2.1.trans hC.2.2⟩
  rw [← hC.1 c i j hv]
  have h15 := v_ok_le hv
  have h1 := h.1
  have h2 := h.2.1
  unfold v_cell
  by_cases q1 : c ≤ 2
  · rw [if_pos q1, if_pos q1]
    have e : v_pl c i j = c := if_pos q1
    rw [e]
    exact h1 c (by omega)
  · rw [if_neg q1, if_neg q1]
    by_cases q2 : c ≤ 5
    · rw [if_pos q2, if_pos q2]
      have e : v_pl c i j = c - 3 := (if_neg q1).trans (if_pos (by omega))
      rw [e]
      exact h2 1 (c - 3) (by decide) (by decide) (by decide) (show c - 3 < 3 by omega)
    · rw [if_neg q2, if_neg q2]
      by_cases q3 : c ≤ 8
      · rw [if_pos q3, if_pos q3]
        have e : v_pl c i j = c - 3 := (if_neg q1).trans (if_pos (by omega))
        rw [e]
        exact h1 (c - 3) (by omega)
      · rw [if_neg q3, if_neg q3]
        refine h2 (c - 6) (v_pl c i j) (by omega) (by omega) (by omega) ?_
        unfold v_ok at hv
        unfold v_pl y_len
        repeat' split at hv
        all_goals (repeat' split)
        all_goals omega
theorem x_cp_at {α : Type} {a b : Nat → α} {m j : Nat} (h : j < m) : va_cpy a b 0 0 m j = a j := by
  rw [pk_cpy_in (Nat.zero_le _) (by omega)]
  congr 1
  omega
section C65
variable {f : Nat → Nat → Int32} {g : Nat → Nat → Int64} {r t : Nat} {dm : List Nat} {n d N : Nat} {v : xV}
theorem c_copyL_22_12 : x_Ct 2 (d + 1) [.ref 22, .ref 12] (f, g, x_HR r t, dm, n) (fun q h' => q = none ∧ ∃ F G, h' = (F, G, x_HR r t, dm, n) ∧ x_CP f g 22 12 F G) := by
  refine x_Ct_w (by decide) (Nat.le_of_ble_eq_true rfl) ok2 [] 6 ?_
  refine And.intro (by unfold x_cp; decide) ?_
  refine And.intro (by unfold x_cp; decide) ?_
  refine And.intro (by unfold x_cp; decide) ?_
  refine And.intro (by unfold x_cp; decide) ?_
  refine And.intro (by unfold x_cp; decide) ?_
  refine And.intro (by unfold x_cp; decide) ?_
  refine And.intro (by unfold x_cp; decide) ?_
  refine And.intro (by unfold x_cp; decide) ?_
  refine And.intro (by unfold x_cp; decide) ?_
  refine And.intro ?_ ⟨trivial, Nat.le_refl _, Nat.le_refl _⟩
  refine ⟨rfl, _, _, rfl, fun j hj => ?_, fun c j c1 c2 c3 hj => ?_, rfl, rfl, fun j hj => x_cp_at hj, fun c hc => ?_, fun c h1 h2 => ?_⟩
  · have : j = 0 ∨ j = 1 ∨ j = 2 ∨ j = 3 ∨ j = 4 ∨ j = 5 := by omega
    rcases this with rfl | rfl | rfl | rfl | rfl | rfl <;> rfl
  · have : c = 1 ∨ c = 3 ∨ c = 4 ∨ c = 5 ∨ c = 6 ∨ c = 7 ∨ c = 8 ∨ c = 9 := by omega
    rcases this with rfl | rfl | rfl | rfl | rfl | rfl | rfl | rfl <;> exact x_cp_at hj
  · have n0 : c ≠ 22 := by omega
    rw [x_un (show c ≠ 31 by omega), x_un (show c ≠ 30 by omega), x_un (show c ≠ 29 by omega), x_un (show c ≠ 28 by omega), x_un (show c ≠ 27 by omega), x_un (show c ≠ 26 by omega), x_un (show c ≠ 25 by omega), x_un (show c ≠ 23 by omega), x_up_k n0, x_up_k n0, x_up_k n0, x_up_k n0, x_up_k n0, x_up_k n0]
  · exact (x_un h2).trans ((x_up_k h1).trans (x_up_k h1))
theorem c_copyL_12_22 : x_Ct 2 (d + 1) [.ref 12, .ref 22] (f, g, x_HR r t, dm, n) (fun q h' => q = none ∧ ∃ F G, h' = (F, G, x_HR r t, dm, n) ∧ x_CP f g 12 22 F G) := by
  refine x_Ct_w (by decide) (Nat.le_of_ble_eq_true rfl) ok2 [] 6 ?_
  refine And.intro (by unfold x_cp; decide) ?_
  refine And.intro (by unfold x_cp; decide) ?_
  refine And.intro (by unfold x_cp; decide) ?_
  refine And.intro (by unfold x_cp; decide) ?_
  refine And.intro (by unfold x_cp; decide) ?_
  refine And.intro (by unfold x_cp; decide) ?_
  refine And.intro (by unfold x_cp; decide) ?_
  refine And.intro (by unfold x_cp; decide) ?_
  refine And.intro (by unfold x_cp; decide) ?_
  refine And.intro ?_ ⟨trivial, Nat.le_refl _, Nat.le_refl _⟩
  refine ⟨rfl, _, _, rfl, fun j hj => ?_, fun c j c1 c2 c3 hj => ?_, rfl, rfl, fun j hj => x_cp_at hj, fun c hc => ?_, fun c h1 h2 => ?_⟩
  · have : j = 0 ∨ j = 1 ∨ j = 2 ∨ j = 3 ∨ j = 4 ∨ j = 5 := by omega
    rcases this with rfl | rfl | rfl | rfl | rfl | rfl <;> rfl
  · have : c = 1 ∨ c = 3 ∨ c = 4 ∨ c = 5 ∨ c = 6 ∨ c = 7 ∨ c = 8 ∨ c = 9 := by omega
    rcases this with rfl | rfl | rfl | rfl | rfl | rfl | rfl | rfl <;> exact x_cp_at hj
  · have n0 : c ≠ 12 := by omega
    rw [x_un (show c ≠ 21 by omega), x_un (show c ≠ 20 by omega), x_un (show c ≠ 19 by omega), x_un (show c ≠ 18 by omega), x_un (show c ≠ 17 by omega), x_un (show c ≠ 16 by omega), x_un (show c ≠ 15 by omega), x_un (show c ≠ 13 by omega), x_up_k n0, x_up_k n0, x_up_k n0, x_up_k n0, x_up_k n0, x_up_k n0]
  · exact (x_un h2).trans ((x_up_k h1).trans (x_up_k h1))
theorem c_copyL_48_12 : x_Ct 2 (d + 1) [.ref 48, .ref 12] (f, g, x_HR r t, dm, n) (fun q h' => q = none ∧ ∃ F G, h' = (F, G, x_HR r t, dm, n) ∧ x_CP f g 48 12 F G) := by
  refine x_Ct_w (by decide) (Nat.le_of_ble_eq_true rfl) ok2 [] 6 ?_
  refine And.intro (by unfold x_cp; decide) ?_
  refine And.intro (by unfold x_cp; decide) ?_
  refine And.intro (by unfold x_cp; decide) ?_
  refine And.intro (by unfold x_cp; decide) ?_
  refine And.intro (by unfold x_cp; decide) ?_
  refine And.intro (by unfold x_cp; decide) ?_
  refine And.intro (by unfold x_cp; decide) ?_
  refine And.intro (by unfold x_cp; decide) ?_
  refine And.intro (by unfold x_cp; decide) ?_
  refine And.intro ?_ ⟨trivial, Nat.le_refl _, Nat.le_refl _⟩
  refine ⟨rfl, _, _, rfl, fun j hj => ?_, fun c j c1 c2 c3 hj => ?_, rfl, rfl, fun j hj => x_cp_at hj, fun c hc => ?_, fun c h1 h2 => ?_⟩
  · have : j = 0 ∨ j = 1 ∨ j = 2 ∨ j = 3 ∨ j = 4 ∨ j = 5 := by omega
    rcases this with rfl | rfl | rfl | rfl | rfl | rfl <;> rfl
  · have : c = 1 ∨ c = 3 ∨ c = 4 ∨ c = 5 ∨ c = 6 ∨ c = 7 ∨ c = 8 ∨ c = 9 := by omega
    rcases this with rfl | rfl | rfl | rfl | rfl | rfl | rfl | rfl <;> exact x_cp_at hj
  · have n0 : c ≠ 48 := by omega
    rw [x_un (show c ≠ 57 by omega), x_un (show c ≠ 56 by omega), x_un (show c ≠ 55 by omega), x_un (show c ≠ 54 by omega), x_un (show c ≠ 53 by omega), x_un (show c ≠ 52 by omega), x_un (show c ≠ 51 by omega), x_un (show c ≠ 49 by omega), x_up_k n0, x_up_k n0, x_up_k n0, x_up_k n0, x_up_k n0, x_up_k n0]
  · exact (x_un h2).trans ((x_up_k h1).trans (x_up_k h1))
theorem c_copyL_65_12 : x_Ct 2 (d + 1) [.ref 65, .ref 12] (f, g, x_HR r t, dm, n) (fun q h' => q = none ∧ ∃ F G, h' = (F, G, x_HR r t, dm, n) ∧ x_CP f g 65 12 F G) := by
  refine x_Ct_w (by decide) (Nat.le_of_ble_eq_true rfl) ok2 [] 6 ?_
  refine And.intro (by unfold x_cp; decide) ?_
  refine And.intro (by unfold x_cp; decide) ?_
  refine And.intro (by unfold x_cp; decide) ?_
  refine And.intro (by unfold x_cp; decide) ?_
  refine And.intro (by unfold x_cp; decide) ?_
  refine And.intro (by unfold x_cp; decide) ?_
  refine And.intro (by unfold x_cp; decide) ?_
  refine And.intro (by unfold x_cp; decide) ?_
  refine And.intro (by unfold x_cp; decide) ?_
  refine And.intro ?_ ⟨trivial, Nat.le_refl _, Nat.le_refl _⟩
  refine ⟨rfl, _, _, rfl, fun j hj => ?_, fun c j c1 c2 c3 hj => ?_, rfl, rfl, fun j hj => x_cp_at hj, fun c hc => ?_, fun c h1 h2 => ?_⟩
  · have : j = 0 ∨ j = 1 ∨ j = 2 ∨ j = 3 ∨ j = 4 ∨ j = 5 := by omega
    rcases this with rfl | rfl | rfl | rfl | rfl | rfl <;> rfl
  · have : c = 1 ∨ c = 3 ∨ c = 4 ∨ c = 5 ∨ c = 6 ∨ c = 7 ∨ c = 8 ∨ c = 9 := by omega
    rcases this with rfl | rfl | rfl | rfl | rfl | rfl | rfl | rfl <;> exact x_cp_at hj
  · have n0 : c ≠ 65 := by omega
    rw [x_un (show c ≠ 74 by omega), x_un (show c ≠ 73 by omega), x_un (show c ≠ 72 by omega), x_un (show c ≠ 71 by omega), x_un (show c ≠ 70 by omega), x_un (show c ≠ 69 by omega), x_un (show c ≠ 68 by omega), x_un (show c ≠ 66 by omega), x_up_k n0, x_up_k n0, x_up_k n0, x_up_k n0, x_up_k n0, x_up_k n0]
  · exact (x_un h2).trans ((x_up_k h1).trans (x_up_k h1))
theorem c_copyL_82_12 : x_Ct 2 (d + 1) [.ref 82, .ref 12] (f, g, x_HR r t, dm, n) (fun q h' => q = none ∧ ∃ F G, h' = (F, G, x_HR r t, dm, n) ∧ x_CP f g 82 12 F G) := by
  refine x_Ct_w (by decide) (Nat.le_of_ble_eq_true rfl) ok2 [] 6 ?_
  refine And.intro (by unfold x_cp; decide) ?_
  refine And.intro (by unfold x_cp; decide) ?_
  refine And.intro (by unfold x_cp; decide) ?_
  refine And.intro (by unfold x_cp; decide) ?_
  refine And.intro (by unfold x_cp; decide) ?_
  refine And.intro (by unfold x_cp; decide) ?_
  refine And.intro (by unfold x_cp; decide) ?_
  refine And.intro (by unfold x_cp; decide) ?_
  refine And.intro (by unfold x_cp; decide) ?_
  refine And.intro ?_ ⟨trivial, Nat.le_refl _, Nat.le_refl _⟩
  refine ⟨rfl, _, _, rfl, fun j hj => ?_, fun c j c1 c2 c3 hj => ?_, rfl, rfl, fun j hj => x_cp_at hj, fun c hc => ?_, fun c h1 h2 => ?_⟩
  · have : j = 0 ∨ j = 1 ∨ j = 2 ∨ j = 3 ∨ j = 4 ∨ j = 5 := by omega
    rcases this with rfl | rfl | rfl | rfl | rfl | rfl <;> rfl
  · have : c = 1 ∨ c = 3 ∨ c = 4 ∨ c = 5 ∨ c = 6 ∨ c = 7 ∨ c = 8 ∨ c = 9 := by omega
    rcases this with rfl | rfl | rfl | rfl | rfl | rfl | rfl | rfl <;> exact x_cp_at hj
  · have n0 : c ≠ 82 := by omega
    rw [x_un (show c ≠ 91 by omega), x_un (show c ≠ 90 by omega), x_un (show c ≠ 89 by omega), x_un (show c ≠ 88 by omega), x_un (show c ≠ 87 by omega), x_un (show c ≠ 86 by omega), x_un (show c ≠ 85 by omega), x_un (show c ≠ 83 by omega), x_up_k n0, x_up_k n0, x_up_k n0, x_up_k n0, x_up_k n0, x_up_k n0]
  · exact (x_un h2).trans ((x_up_k h1).trans (x_up_k h1))
theorem c_copyL_48_22 : x_Ct 2 (d + 1) [.ref 48, .ref 22] (f, g, x_HR r t, dm, n) (fun q h' => q = none ∧ ∃ F G, h' = (F, G, x_HR r t, dm, n) ∧ x_CP f g 48 22 F G) := by
  refine x_Ct_w (by decide) (Nat.le_of_ble_eq_true rfl) ok2 [] 6 ?_
  refine And.intro (by unfold x_cp; decide) ?_
  refine And.intro (by unfold x_cp; decide) ?_
  refine And.intro (by unfold x_cp; decide) ?_
  refine And.intro (by unfold x_cp; decide) ?_
  refine And.intro (by unfold x_cp; decide) ?_
  refine And.intro (by unfold x_cp; decide) ?_
  refine And.intro (by unfold x_cp; decide) ?_
  refine And.intro (by unfold x_cp; decide) ?_
  refine And.intro (by unfold x_cp; decide) ?_
  refine And.intro ?_ ⟨trivial, Nat.le_refl _, Nat.le_refl _⟩
  refine ⟨rfl, _, _, rfl, fun j hj => ?_, fun c j c1 c2 c3 hj => ?_, rfl, rfl, fun j hj => x_cp_at hj, fun c hc => ?_, fun c h1 h2 => ?_⟩
  · have : j = 0 ∨ j = 1 ∨ j = 2 ∨ j = 3 ∨ j = 4 ∨ j = 5 := by omega
    rcases this with rfl | rfl | rfl | rfl | rfl | rfl <;> rfl
  · have : c = 1 ∨ c = 3 ∨ c = 4 ∨ c = 5 ∨ c = 6 ∨ c = 7 ∨ c = 8 ∨ c = 9 := by omega
    rcases this with rfl | rfl | rfl | rfl | rfl | rfl | rfl | rfl <;> exact x_cp_at hj
  · have n0 : c ≠ 48 := by omega
    rw [x_un (show c ≠ 57 by omega), x_un (show c ≠ 56 by omega), x_un (show c ≠ 55 by omega), x_un (show c ≠ 54 by omega), x_un (show c ≠ 53 by omega), x_un (show c ≠ 52 by omega), x_un (show c ≠ 51 by omega), x_un (show c ≠ 49 by omega), x_up_k n0, x_up_k n0, x_up_k n0, x_up_k n0, x_up_k n0, x_up_k n0]
  · exact (x_un h2).trans ((x_up_k h1).trans (x_up_k h1))
theorem c_copyL_65_22 : x_Ct 2 (d + 1) [.ref 65, .ref 22] (f, g, x_HR r t, dm, n) (fun q h' => q = none ∧ ∃ F G, h' = (F, G, x_HR r t, dm, n) ∧ x_CP f g 65 22 F G) := by
  refine x_Ct_w (by decide) (Nat.le_of_ble_eq_true rfl) ok2 [] 6 ?_
  refine And.intro (by unfold x_cp; decide) ?_
  refine And.intro (by unfold x_cp; decide) ?_
  refine And.intro (by unfold x_cp; decide) ?_
  refine And.intro (by unfold x_cp; decide) ?_
  refine And.intro (by unfold x_cp; decide) ?_
  refine And.intro (by unfold x_cp; decide) ?_
  refine And.intro (by unfold x_cp; decide) ?_
  refine And.intro (by unfold x_cp; decide) ?_
  refine And.intro (by unfold x_cp; decide) ?_
  refine And.intro ?_ ⟨trivial, Nat.le_refl _, Nat.le_refl _⟩
  refine ⟨rfl, _, _, rfl, fun j hj => ?_, fun c j c1 c2 c3 hj => ?_, rfl, rfl, fun j hj => x_cp_at hj, fun c hc => ?_, fun c h1 h2 => ?_⟩
  · have : j = 0 ∨ j = 1 ∨ j = 2 ∨ j = 3 ∨ j = 4 ∨ j = 5 := by omega
    rcases this with rfl | rfl | rfl | rfl | rfl | rfl <;> rfl
  · have : c = 1 ∨ c = 3 ∨ c = 4 ∨ c = 5 ∨ c = 6 ∨ c = 7 ∨ c = 8 ∨ c = 9 := by omega
    rcases this with rfl | rfl | rfl | rfl | rfl | rfl | rfl | rfl <;> exact x_cp_at hj
  · have n0 : c ≠ 65 := by omega
    rw [x_un (show c ≠ 74 by omega), x_un (show c ≠ 73 by omega), x_un (show c ≠ 72 by omega), x_un (show c ≠ 71 by omega), x_un (show c ≠ 70 by omega), x_un (show c ≠ 69 by omega), x_un (show c ≠ 68 by omega), x_un (show c ≠ 66 by omega), x_up_k n0, x_up_k n0, x_up_k n0, x_up_k n0, x_up_k n0, x_up_k n0]
  · exact (x_un h2).trans ((x_up_k h1).trans (x_up_k h1))
theorem c_copyL_82_22 : x_Ct 2 (d + 1) [.ref 82, .ref 22] (f, g, x_HR r t, dm, n) (fun q h' => q = none ∧ ∃ F G, h' = (F, G, x_HR r t, dm, n) ∧ x_CP f g 82 22 F G) := by
  refine x_Ct_w (by decide) (Nat.le_of_ble_eq_true rfl) ok2 [] 6 ?_
  refine And.intro (by unfold x_cp; decide) ?_
  refine And.intro (by unfold x_cp; decide) ?_
  refine And.intro (by unfold x_cp; decide) ?_
  refine And.intro (by unfold x_cp; decide) ?_
  refine And.intro (by unfold x_cp; decide) ?_
  refine And.intro (by unfold x_cp; decide) ?_
  refine And.intro (by unfold x_cp; decide) ?_
  refine And.intro (by unfold x_cp; decide) ?_
  refine And.intro (by unfold x_cp; decide) ?_
  refine And.intro ?_ ⟨trivial, Nat.le_refl _, Nat.le_refl _⟩
  refine ⟨rfl, _, _, rfl, fun j hj => ?_, fun c j c1 c2 c3 hj => ?_, rfl, rfl, fun j hj => x_cp_at hj, fun c hc => ?_, fun c h1 h2 => ?_⟩
  · have : j = 0 ∨ j = 1 ∨ j = 2 ∨ j = 3 ∨ j = 4 ∨ j = 5 := by omega
    rcases this with rfl | rfl | rfl | rfl | rfl | rfl <;> rfl
  · have : c = 1 ∨ c = 3 ∨ c = 4 ∨ c = 5 ∨ c = 6 ∨ c = 7 ∨ c = 8 ∨ c = 9 := by omega
    rcases this with rfl | rfl | rfl | rfl | rfl | rfl | rfl | rfl <;> exact x_cp_at hj
  · have n0 : c ≠ 82 := by omega
    rw [x_un (show c ≠ 91 by omega), x_un (show c ≠ 90 by omega), x_un (show c ≠ 89 by omega), x_un (show c ≠ 88 by omega), x_un (show c ≠ 87 by omega), x_un (show c ≠ 86 by omega), x_un (show c ≠ 85 by omega), x_un (show c ≠ 83 by omega), x_up_k n0, x_up_k n0, x_up_k n0, x_up_k n0, x_up_k n0, x_up_k n0]
  · exact (x_un h2).trans ((x_up_k h1).trans (x_up_k h1))
theorem c_copyL_12_48 : x_Ct 2 (d + 1) [.ref 12, .ref 48] (f, g, x_HR r t, dm, n) (fun q h' => q = none ∧ ∃ F G, h' = (F, G, x_HR r t, dm, n) ∧ x_CP f g 12 48 F G) := by
  refine x_Ct_w (by decide) (Nat.le_of_ble_eq_true rfl) ok2 [] 6 ?_
  refine And.intro (by unfold x_cp; decide) ?_
  refine And.intro (by unfold x_cp; decide) ?_
  refine And.intro (by unfold x_cp; decide) ?_
  refine And.intro (by unfold x_cp; decide) ?_
  refine And.intro (by unfold x_cp; decide) ?_
  refine And.intro (by unfold x_cp; decide) ?_
  refine And.intro (by unfold x_cp; decide) ?_
  refine And.intro (by unfold x_cp; decide) ?_
  refine And.intro (by unfold x_cp; decide) ?_
  refine And.intro ?_ ⟨trivial, Nat.le_refl _, Nat.le_refl _⟩
  refine ⟨rfl, _, _, rfl, fun j hj => ?_, fun c j c1 c2 c3 hj => ?_, rfl, rfl, fun j hj => x_cp_at hj, fun c hc => ?_, fun c h1 h2 => ?_⟩
  · have : j = 0 ∨ j = 1 ∨ j = 2 ∨ j = 3 ∨ j = 4 ∨ j = 5 := by omega
    rcases this with rfl | rfl | rfl | rfl | rfl | rfl <;> rfl
  · have : c = 1 ∨ c = 3 ∨ c = 4 ∨ c = 5 ∨ c = 6 ∨ c = 7 ∨ c = 8 ∨ c = 9 := by omega
    rcases this with rfl | rfl | rfl | rfl | rfl | rfl | rfl | rfl <;> exact x_cp_at hj
  · have n0 : c ≠ 12 := by omega
    rw [x_un (show c ≠ 21 by omega), x_un (show c ≠ 20 by omega), x_un (show c ≠ 19 by omega), x_un (show c ≠ 18 by omega), x_un (show c ≠ 17 by omega), x_un (show c ≠ 16 by omega), x_un (show c ≠ 15 by omega), x_un (show c ≠ 13 by omega), x_up_k n0, x_up_k n0, x_up_k n0, x_up_k n0, x_up_k n0, x_up_k n0]
  · exact (x_un h2).trans ((x_up_k h1).trans (x_up_k h1))
theorem c_copyL_12_65 : x_Ct 2 (d + 1) [.ref 12, .ref 65] (f, g, x_HR r t, dm, n) (fun q h' => q = none ∧ ∃ F G, h' = (F, G, x_HR r t, dm, n) ∧ x_CP f g 12 65 F G) := by
  refine x_Ct_w (by decide) (Nat.le_of_ble_eq_true rfl) ok2 [] 6 ?_
  refine And.intro (by unfold x_cp; decide) ?_
  refine And.intro (by unfold x_cp; decide) ?_
  refine And.intro (by unfold x_cp; decide) ?_
  refine And.intro (by unfold x_cp; decide) ?_
  refine And.intro (by unfold x_cp; decide) ?_
  refine And.intro (by unfold x_cp; decide) ?_
  refine And.intro (by unfold x_cp; decide) ?_
  refine And.intro (by unfold x_cp; decide) ?_
  refine And.intro (by unfold x_cp; decide) ?_
  refine And.intro ?_ ⟨trivial, Nat.le_refl _, Nat.le_refl _⟩
  refine ⟨rfl, _, _, rfl, fun j hj => ?_, fun c j c1 c2 c3 hj => ?_, rfl, rfl, fun j hj => x_cp_at hj, fun c hc => ?_, fun c h1 h2 => ?_⟩
  · have : j = 0 ∨ j = 1 ∨ j = 2 ∨ j = 3 ∨ j = 4 ∨ j = 5 := by omega
    rcases this with rfl | rfl | rfl | rfl | rfl | rfl <;> rfl
  · have : c = 1 ∨ c = 3 ∨ c = 4 ∨ c = 5 ∨ c = 6 ∨ c = 7 ∨ c = 8 ∨ c = 9 := by omega
    rcases this with rfl | rfl | rfl | rfl | rfl | rfl | rfl | rfl <;> exact x_cp_at hj
  · have n0 : c ≠ 12 := by omega
    rw [x_un (show c ≠ 21 by omega), x_un (show c ≠ 20 by omega), x_un (show c ≠ 19 by omega), x_un (show c ≠ 18 by omega), x_un (show c ≠ 17 by omega), x_un (show c ≠ 16 by omega), x_un (show c ≠ 15 by omega), x_un (show c ≠ 13 by omega), x_up_k n0, x_up_k n0, x_up_k n0, x_up_k n0, x_up_k n0, x_up_k n0]
  · exact (x_un h2).trans ((x_up_k h1).trans (x_up_k h1))
theorem c_copyL_12_82 : x_Ct 2 (d + 1) [.ref 12, .ref 82] (f, g, x_HR r t, dm, n) (fun q h' => q = none ∧ ∃ F G, h' = (F, G, x_HR r t, dm, n) ∧ x_CP f g 12 82 F G) := by
  refine x_Ct_w (by decide) (Nat.le_of_ble_eq_true rfl) ok2 [] 6 ?_
  refine And.intro (by unfold x_cp; decide) ?_
  refine And.intro (by unfold x_cp; decide) ?_
  refine And.intro (by unfold x_cp; decide) ?_
  refine And.intro (by unfold x_cp; decide) ?_
  refine And.intro (by unfold x_cp; decide) ?_
  refine And.intro (by unfold x_cp; decide) ?_
  refine And.intro (by unfold x_cp; decide) ?_
  refine And.intro (by unfold x_cp; decide) ?_
  refine And.intro (by unfold x_cp; decide) ?_
  refine And.intro ?_ ⟨trivial, Nat.le_refl _, Nat.le_refl _⟩
  refine ⟨rfl, _, _, rfl, fun j hj => ?_, fun c j c1 c2 c3 hj => ?_, rfl, rfl, fun j hj => x_cp_at hj, fun c hc => ?_, fun c h1 h2 => ?_⟩
  · have : j = 0 ∨ j = 1 ∨ j = 2 ∨ j = 3 ∨ j = 4 ∨ j = 5 := by omega
    rcases this with rfl | rfl | rfl | rfl | rfl | rfl <;> rfl
  · have : c = 1 ∨ c = 3 ∨ c = 4 ∨ c = 5 ∨ c = 6 ∨ c = 7 ∨ c = 8 ∨ c = 9 := by omega
    rcases this with rfl | rfl | rfl | rfl | rfl | rfl | rfl | rfl <;> exact x_cp_at hj
  · have n0 : c ≠ 12 := by omega
    rw [x_un (show c ≠ 21 by omega), x_un (show c ≠ 20 by omega), x_un (show c ≠ 19 by omega), x_un (show c ≠ 18 by omega), x_un (show c ≠ 17 by omega), x_un (show c ≠ 16 by omega), x_un (show c ≠ 15 by omega), x_un (show c ≠ 13 by omega), x_up_k n0, x_up_k n0, x_up_k n0, x_up_k n0, x_up_k n0, x_up_k n0]
  · exact (x_un h2).trans ((x_up_k h1).trans (x_up_k h1))
theorem c_copyL_22_48 : x_Ct 2 (d + 1) [.ref 22, .ref 48] (f, g, x_HR r t, dm, n) (fun q h' => q = none ∧ ∃ F G, h' = (F, G, x_HR r t, dm, n) ∧ x_CP f g 22 48 F G) := by
  refine x_Ct_w (by decide) (Nat.le_of_ble_eq_true rfl) ok2 [] 6 ?_
  refine And.intro (by unfold x_cp; decide) ?_
  refine And.intro (by unfold x_cp; decide) ?_
  refine And.intro (by unfold x_cp; decide) ?_
  refine And.intro (by unfold x_cp; decide) ?_
  refine And.intro (by unfold x_cp; decide) ?_
  refine And.intro (by unfold x_cp; decide) ?_
  refine And.intro (by unfold x_cp; decide) ?_
  refine And.intro (by unfold x_cp; decide) ?_
  refine And.intro (by unfold x_cp; decide) ?_
  refine And.intro ?_ ⟨trivial, Nat.le_refl _, Nat.le_refl _⟩
  refine ⟨rfl, _, _, rfl, fun j hj => ?_, fun c j c1 c2 c3 hj => ?_, rfl, rfl, fun j hj => x_cp_at hj, fun c hc => ?_, fun c h1 h2 => ?_⟩
  · have : j = 0 ∨ j = 1 ∨ j = 2 ∨ j = 3 ∨ j = 4 ∨ j = 5 := by omega
    rcases this with rfl | rfl | rfl | rfl | rfl | rfl <;> rfl
  · have : c = 1 ∨ c = 3 ∨ c = 4 ∨ c = 5 ∨ c = 6 ∨ c = 7 ∨ c = 8 ∨ c = 9 := by omega
    rcases this with rfl | rfl | rfl | rfl | rfl | rfl | rfl | rfl <;> exact x_cp_at hj
  · have n0 : c ≠ 22 := by omega
    rw [x_un (show c ≠ 31 by omega), x_un (show c ≠ 30 by omega), x_un (show c ≠ 29 by omega), x_un (show c ≠ 28 by omega), x_un (show c ≠ 27 by omega), x_un (show c ≠ 26 by omega), x_un (show c ≠ 25 by omega), x_un (show c ≠ 23 by omega), x_up_k n0, x_up_k n0, x_up_k n0, x_up_k n0, x_up_k n0, x_up_k n0]
  · exact (x_un h2).trans ((x_up_k h1).trans (x_up_k h1))
theorem c_copyL_22_65 : x_Ct 2 (d + 1) [.ref 22, .ref 65] (f, g, x_HR r t, dm, n) (fun q h' => q = none ∧ ∃ F G, h' = (F, G, x_HR r t, dm, n) ∧ x_CP f g 22 65 F G) := by
  refine x_Ct_w (by decide) (Nat.le_of_ble_eq_true rfl) ok2 [] 6 ?_
  refine And.intro (by unfold x_cp; decide) ?_
  refine And.intro (by unfold x_cp; decide) ?_
  refine And.intro (by unfold x_cp; decide) ?_
  refine And.intro (by unfold x_cp; decide) ?_
  refine And.intro (by unfold x_cp; decide) ?_
  refine And.intro (by unfold x_cp; decide) ?_
  refine And.intro (by unfold x_cp; decide) ?_
  refine And.intro (by unfold x_cp; decide) ?_
  refine And.intro (by unfold x_cp; decide) ?_
  refine And.intro ?_ ⟨trivial, Nat.le_refl _, Nat.le_refl _⟩
  refine ⟨rfl, _, _, rfl, fun j hj => ?_, fun c j c1 c2 c3 hj => ?_, rfl, rfl, fun j hj => x_cp_at hj, fun c hc => ?_, fun c h1 h2 => ?_⟩
  · have : j = 0 ∨ j = 1 ∨ j = 2 ∨ j = 3 ∨ j = 4 ∨ j = 5 := by omega
    rcases this with rfl | rfl | rfl | rfl | rfl | rfl <;> rfl
  · have : c = 1 ∨ c = 3 ∨ c = 4 ∨ c = 5 ∨ c = 6 ∨ c = 7 ∨ c = 8 ∨ c = 9 := by omega
    rcases this with rfl | rfl | rfl | rfl | rfl | rfl | rfl | rfl <;> exact x_cp_at hj
  · have n0 : c ≠ 22 := by omega
    rw [x_un (show c ≠ 31 by omega), x_un (show c ≠ 30 by omega), x_un (show c ≠ 29 by omega), x_un (show c ≠ 28 by omega), x_un (show c ≠ 27 by omega), x_un (show c ≠ 26 by omega), x_un (show c ≠ 25 by omega), x_un (show c ≠ 23 by omega), x_up_k n0, x_up_k n0, x_up_k n0, x_up_k n0, x_up_k n0, x_up_k n0]
  · exact (x_un h2).trans ((x_up_k h1).trans (x_up_k h1))
theorem c_copyL_22_82 : x_Ct 2 (d + 1) [.ref 22, .ref 82] (f, g, x_HR r t, dm, n) (fun q h' => q = none ∧ ∃ F G, h' = (F, G, x_HR r t, dm, n) ∧ x_CP f g 22 82 F G) := by
  refine x_Ct_w (by decide) (Nat.le_of_ble_eq_true rfl) ok2 [] 6 ?_
  refine And.intro (by unfold x_cp; decide) ?_
  refine And.intro (by unfold x_cp; decide) ?_
  refine And.intro (by unfold x_cp; decide) ?_
  refine And.intro (by unfold x_cp; decide) ?_
  refine And.intro (by unfold x_cp; decide) ?_
  refine And.intro (by unfold x_cp; decide) ?_
  refine And.intro (by unfold x_cp; decide) ?_
  refine And.intro (by unfold x_cp; decide) ?_
  refine And.intro (by unfold x_cp; decide) ?_
  refine And.intro ?_ ⟨trivial, Nat.le_refl _, Nat.le_refl _⟩
  refine ⟨rfl, _, _, rfl, fun j hj => ?_, fun c j c1 c2 c3 hj => ?_, rfl, rfl, fun j hj => x_cp_at hj, fun c hc => ?_, fun c h1 h2 => ?_⟩
  · have : j = 0 ∨ j = 1 ∨ j = 2 ∨ j = 3 ∨ j = 4 ∨ j = 5 := by omega
    rcases this with rfl | rfl | rfl | rfl | rfl | rfl <;> rfl
  · have : c = 1 ∨ c = 3 ∨ c = 4 ∨ c = 5 ∨ c = 6 ∨ c = 7 ∨ c = 8 ∨ c = 9 := by omega
    rcases this with rfl | rfl | rfl | rfl | rfl | rfl | rfl | rfl <;> exact x_cp_at hj
  · have n0 : c ≠ 22 := by omega
    rw [x_un (show c ≠ 31 by omega), x_un (show c ≠ 30 by omega), x_un (show c ≠ 29 by omega), x_un (show c ≠ 28 by omega), x_un (show c ≠ 27 by omega), x_un (show c ≠ 26 by omega), x_un (show c ≠ 25 by omega), x_un (show c ≠ 23 by omega), x_up_k n0, x_up_k n0, x_up_k n0, x_up_k n0, x_up_k n0, x_up_k n0]
  · exact (x_un h2).trans ((x_up_k h1).trans (x_up_k h1))
end C65
