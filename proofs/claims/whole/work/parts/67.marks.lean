/-! a story copied onto another; mark(), undo() -/
def x_CS (f : Nat → Nat → Int32) (A B : Nat) (F : Nat → Nat → Int32) : Prop := (∀ j, j ≤ 2 → F A j = f B j) ∧ (∀ c j, 1 ≤ c → c ≤ 6 → j < 60 → F (A + c) j = f (B + c) j) ∧ ∀ c, c < A ∨ A + 6 < c → F c = f c
theorem x_CS_S {f F : Nat → Nat → Int32} {A B : Nat} {S : xP} (h : x_CS f A B F) (hS : x_SO f B S) (hNL : ∀ p, S = some p → p.2 ≤ 60) : x_SO F A S := by
  cases S with
  | none => exact (h.1 0 (by decide)).trans hS
  | some p =>
    have hN := hNL p rfl
    refine ⟨(h.1 0 (by decide)).trans hS.1, (h.1 2 (by decide)).trans hS.2.1, fun k hk => ?_⟩
    have e := fun c h1 h2 => h.2.1 c k h1 h2 (Nat.lt_of_lt_of_le hk hN)
    rw [e 1 (by decide) (by decide), e 2 (by decide) (by decide), e 3 (by decide) (by decide), e 4 (by decide) (by decide), e 5 (by decide) (by decide), e 6 (by decide) (by decide)]
    exact hS.2.2 k hk
section C67
variable {f : Nat → Nat → Int32} {g : Nat → Nat → Int64} {r t : Nat} {dm : List Nat} {n d N : Nat} {v : xV}
theorem c_copyS_58_32 (hb : f 32 0 = 0 ∨ f 32 0 = 1) : x_Ct 58 (d + 1) [.ref 58, .ref 32] (f, g, x_HR r t, dm, n) (fun q h' => q = none ∧ ∃ F, h' = (F, g, x_HR r t, dm, n) ∧ x_CS f 58 32 F) := by
  refine x_Ct_w (by decide) (Nat.le_of_ble_eq_true rfl) ok58 [] 6 ?_
  refine And.intro hb ?_
  refine And.intro (by unfold x_cp; decide) ?_
  refine And.intro (by unfold x_cp; decide) ?_
  refine And.intro (by unfold x_cp; decide) ?_
  refine And.intro (by unfold x_cp; decide) ?_
  refine And.intro (by unfold x_cp; decide) ?_
  refine And.intro (by unfold x_cp; decide) ?_
  refine And.intro ?_ ⟨trivial, Nat.le_refl _, Nat.le_refl _⟩
  refine ⟨rfl, _, rfl, fun j hj => ?_, fun c j c1 c2 hj => ?_, fun c hc => ?_⟩
  · have : j = 0 ∨ j = 1 ∨ j = 2 := by omega
    rcases this with rfl | rfl | rfl <;> rfl
  · have : c = 1 ∨ c = 2 ∨ c = 3 ∨ c = 4 ∨ c = 5 ∨ c = 6 := by omega
    rcases this with rfl | rfl | rfl | rfl | rfl | rfl <;> exact x_cp_at hj
  · have n0 : c ≠ 58 := by omega
    rw [x_un (show c ≠ 64 by omega), x_un (show c ≠ 63 by omega), x_un (show c ≠ 62 by omega), x_un (show c ≠ 61 by omega), x_un (show c ≠ 60 by omega), x_un (show c ≠ 59 by omega), x_up_k n0, x_up_k n0, x_up_k n0]
theorem c_copyS_75_32 (hb : f 32 0 = 0 ∨ f 32 0 = 1) : x_Ct 58 (d + 1) [.ref 75, .ref 32] (f, g, x_HR r t, dm, n) (fun q h' => q = none ∧ ∃ F, h' = (F, g, x_HR r t, dm, n) ∧ x_CS f 75 32 F) := by
  refine x_Ct_w (by decide) (Nat.le_of_ble_eq_true rfl) ok58 [] 6 ?_
  refine And.intro hb ?_
  refine And.intro (by unfold x_cp; decide) ?_
  refine And.intro (by unfold x_cp; decide) ?_
  refine And.intro (by unfold x_cp; decide) ?_
  refine And.intro (by unfold x_cp; decide) ?_
  refine And.intro (by unfold x_cp; decide) ?_
  refine And.intro (by unfold x_cp; decide) ?_
  refine And.intro ?_ ⟨trivial, Nat.le_refl _, Nat.le_refl _⟩
  refine ⟨rfl, _, rfl, fun j hj => ?_, fun c j c1 c2 hj => ?_, fun c hc => ?_⟩
  · have : j = 0 ∨ j = 1 ∨ j = 2 := by omega
    rcases this with rfl | rfl | rfl <;> rfl
  · have : c = 1 ∨ c = 2 ∨ c = 3 ∨ c = 4 ∨ c = 5 ∨ c = 6 := by omega
    rcases this with rfl | rfl | rfl | rfl | rfl | rfl <;> exact x_cp_at hj
  · have n0 : c ≠ 75 := by omega
    rw [x_un (show c ≠ 81 by omega), x_un (show c ≠ 80 by omega), x_un (show c ≠ 79 by omega), x_un (show c ≠ 78 by omega), x_un (show c ≠ 77 by omega), x_un (show c ≠ 76 by omega), x_up_k n0, x_up_k n0, x_up_k n0]
theorem c_copyS_92_32 (hb : f 32 0 = 0 ∨ f 32 0 = 1) : x_Ct 58 (d + 1) [.ref 92, .ref 32] (f, g, x_HR r t, dm, n) (fun q h' => q = none ∧ ∃ F, h' = (F, g, x_HR r t, dm, n) ∧ x_CS f 92 32 F) := by
  refine x_Ct_w (by decide) (Nat.le_of_ble_eq_true rfl) ok58 [] 6 ?_
  refine And.intro hb ?_
  refine And.intro (by unfold x_cp; decide) ?_
  refine And.intro (by unfold x_cp; decide) ?_
  refine And.intro (by unfold x_cp; decide) ?_
  refine And.intro (by unfold x_cp; decide) ?_
  refine And.intro (by unfold x_cp; decide) ?_
  refine And.intro (by unfold x_cp; decide) ?_
  refine And.intro ?_ ⟨trivial, Nat.le_refl _, Nat.le_refl _⟩
  refine ⟨rfl, _, rfl, fun j hj => ?_, fun c j c1 c2 hj => ?_, fun c hc => ?_⟩
  · have : j = 0 ∨ j = 1 ∨ j = 2 := by omega
    rcases this with rfl | rfl | rfl <;> rfl
  · have : c = 1 ∨ c = 2 ∨ c = 3 ∨ c = 4 ∨ c = 5 ∨ c = 6 := by omega
    rcases this with rfl | rfl | rfl | rfl | rfl | rfl <;> exact x_cp_at hj
  · have n0 : c ≠ 92 := by omega
    rw [x_un (show c ≠ 98 by omega), x_un (show c ≠ 97 by omega), x_un (show c ≠ 96 by omega), x_un (show c ≠ 95 by omega), x_un (show c ≠ 94 by omega), x_un (show c ≠ 93 by omega), x_up_k n0, x_up_k n0, x_up_k n0]
theorem c_copyS_58_39 (hb : f 39 0 = 0 ∨ f 39 0 = 1) : x_Ct 58 (d + 1) [.ref 58, .ref 39] (f, g, x_HR r t, dm, n) (fun q h' => q = none ∧ ∃ F, h' = (F, g, x_HR r t, dm, n) ∧ x_CS f 58 39 F) := by
  refine x_Ct_w (by decide) (Nat.le_of_ble_eq_true rfl) ok58 [] 6 ?_
  refine And.intro hb ?_
  refine And.intro (by unfold x_cp; decide) ?_
  refine And.intro (by unfold x_cp; decide) ?_
  refine And.intro (by unfold x_cp; decide) ?_
  refine And.intro (by unfold x_cp; decide) ?_
  refine And.intro (by unfold x_cp; decide) ?_
  refine And.intro (by unfold x_cp; decide) ?_
  refine And.intro ?_ ⟨trivial, Nat.le_refl _, Nat.le_refl _⟩
  refine ⟨rfl, _, rfl, fun j hj => ?_, fun c j c1 c2 hj => ?_, fun c hc => ?_⟩
  · have : j = 0 ∨ j = 1 ∨ j = 2 := by omega
    rcases this with rfl | rfl | rfl <;> rfl
  · have : c = 1 ∨ c = 2 ∨ c = 3 ∨ c = 4 ∨ c = 5 ∨ c = 6 := by omega
    rcases this with rfl | rfl | rfl | rfl | rfl | rfl <;> exact x_cp_at hj
  · have n0 : c ≠ 58 := by omega
    rw [x_un (show c ≠ 64 by omega), x_un (show c ≠ 63 by omega), x_un (show c ≠ 62 by omega), x_un (show c ≠ 61 by omega), x_un (show c ≠ 60 by omega), x_un (show c ≠ 59 by omega), x_up_k n0, x_up_k n0, x_up_k n0]
theorem c_copyS_75_39 (hb : f 39 0 = 0 ∨ f 39 0 = 1) : x_Ct 58 (d + 1) [.ref 75, .ref 39] (f, g, x_HR r t, dm, n) (fun q h' => q = none ∧ ∃ F, h' = (F, g, x_HR r t, dm, n) ∧ x_CS f 75 39 F) := by
  refine x_Ct_w (by decide) (Nat.le_of_ble_eq_true rfl) ok58 [] 6 ?_
  refine And.intro hb ?_
  refine And.intro (by unfold x_cp; decide) ?_
  refine And.intro (by unfold x_cp; decide) ?_
  refine And.intro (by unfold x_cp; decide) ?_
  refine And.intro (by unfold x_cp; decide) ?_
  refine And.intro (by unfold x_cp; decide) ?_
  refine And.intro (by unfold x_cp; decide) ?_
  refine And.intro ?_ ⟨trivial, Nat.le_refl _, Nat.le_refl _⟩
  refine ⟨rfl, _, rfl, fun j hj => ?_, fun c j c1 c2 hj => ?_, fun c hc => ?_⟩
  · have : j = 0 ∨ j = 1 ∨ j = 2 := by omega
    rcases this with rfl | rfl | rfl <;> rfl
  · have : c = 1 ∨ c = 2 ∨ c = 3 ∨ c = 4 ∨ c = 5 ∨ c = 6 := by omega
    rcases this with rfl | rfl | rfl | rfl | rfl | rfl <;> exact x_cp_at hj
  · have n0 : c ≠ 75 := by omega
    rw [x_un (show c ≠ 81 by omega), x_un (show c ≠ 80 by omega), x_un (show c ≠ 79 by omega), x_un (show c ≠ 78 by omega), x_un (show c ≠ 77 by omega), x_un (show c ≠ 76 by omega), x_up_k n0, x_up_k n0, x_up_k n0]
theorem c_copyS_92_39 (hb : f 39 0 = 0 ∨ f 39 0 = 1) : x_Ct 58 (d + 1) [.ref 92, .ref 39] (f, g, x_HR r t, dm, n) (fun q h' => q = none ∧ ∃ F, h' = (F, g, x_HR r t, dm, n) ∧ x_CS f 92 39 F) := by
  refine x_Ct_w (by decide) (Nat.le_of_ble_eq_true rfl) ok58 [] 6 ?_
  refine And.intro hb ?_
  refine And.intro (by unfold x_cp; decide) ?_
  refine And.intro (by unfold x_cp; decide) ?_
  refine And.intro (by unfold x_cp; decide) ?_
  refine And.intro (by unfold x_cp; decide) ?_
  refine And.intro (by unfold x_cp; decide) ?_
  refine And.intro (by unfold x_cp; decide) ?_
  refine And.intro ?_ ⟨trivial, Nat.le_refl _, Nat.le_refl _⟩
  refine ⟨rfl, _, rfl, fun j hj => ?_, fun c j c1 c2 hj => ?_, fun c hc => ?_⟩
  · have : j = 0 ∨ j = 1 ∨ j = 2 := by omega
    rcases this with rfl | rfl | rfl <;> rfl
  · have : c = 1 ∨ c = 2 ∨ c = 3 ∨ c = 4 ∨ c = 5 ∨ c = 6 := by omega
    rcases this with rfl | rfl | rfl | rfl | rfl | rfl <;> exact x_cp_at hj
  · have n0 : c ≠ 92 := by omega
    rw [x_un (show c ≠ 98 by omega), x_un (show c ≠ 97 by omega), x_un (show c ≠ 96 by omega), x_un (show c ≠ 95 by omega), x_un (show c ≠ 94 by omega), x_un (show c ≠ 93 by omega), x_up_k n0, x_up_k n0, x_up_k n0]
theorem c_copyS_32_58 (hb : f 58 0 = 0 ∨ f 58 0 = 1) : x_Ct 58 (d + 1) [.ref 32, .ref 58] (f, g, x_HR r t, dm, n) (fun q h' => q = none ∧ ∃ F, h' = (F, g, x_HR r t, dm, n) ∧ x_CS f 32 58 F) := by
  refine x_Ct_w (by decide) (Nat.le_of_ble_eq_true rfl) ok58 [] 6 ?_
  refine And.intro hb ?_
  refine And.intro (by unfold x_cp; decide) ?_
  refine And.intro (by unfold x_cp; decide) ?_
  refine And.intro (by unfold x_cp; decide) ?_
  refine And.intro (by unfold x_cp; decide) ?_
  refine And.intro (by unfold x_cp; decide) ?_
  refine And.intro (by unfold x_cp; decide) ?_
  refine And.intro ?_ ⟨trivial, Nat.le_refl _, Nat.le_refl _⟩
  refine ⟨rfl, _, rfl, fun j hj => ?_, fun c j c1 c2 hj => ?_, fun c hc => ?_⟩
  · have : j = 0 ∨ j = 1 ∨ j = 2 := by omega
    rcases this with rfl | rfl | rfl <;> rfl
  · have : c = 1 ∨ c = 2 ∨ c = 3 ∨ c = 4 ∨ c = 5 ∨ c = 6 := by omega
    rcases this with rfl | rfl | rfl | rfl | rfl | rfl <;> exact x_cp_at hj
  · have n0 : c ≠ 32 := by omega
    rw [x_un (show c ≠ 38 by omega), x_un (show c ≠ 37 by omega), x_un (show c ≠ 36 by omega), x_un (show c ≠ 35 by omega), x_un (show c ≠ 34 by omega), x_un (show c ≠ 33 by omega), x_up_k n0, x_up_k n0, x_up_k n0]
theorem c_copyS_32_75 (hb : f 75 0 = 0 ∨ f 75 0 = 1) : x_Ct 58 (d + 1) [.ref 32, .ref 75] (f, g, x_HR r t, dm, n) (fun q h' => q = none ∧ ∃ F, h' = (F, g, x_HR r t, dm, n) ∧ x_CS f 32 75 F) := by
  refine x_Ct_w (by decide) (Nat.le_of_ble_eq_true rfl) ok58 [] 6 ?_
  refine And.intro hb ?_
  refine And.intro (by unfold x_cp; decide) ?_
  refine And.intro (by unfold x_cp; decide) ?_
  refine And.intro (by unfold x_cp; decide) ?_
  refine And.intro (by unfold x_cp; decide) ?_
  refine And.intro (by unfold x_cp; decide) ?_
  refine And.intro (by unfold x_cp; decide) ?_
  refine And.intro ?_ ⟨trivial, Nat.le_refl _, Nat.le_refl _⟩
  refine ⟨rfl, _, rfl, fun j hj => ?_, fun c j c1 c2 hj => ?_, fun c hc => ?_⟩
  · have : j = 0 ∨ j = 1 ∨ j = 2 := by omega
    rcases this with rfl | rfl | rfl <;> rfl
  · have : c = 1 ∨ c = 2 ∨ c = 3 ∨ c = 4 ∨ c = 5 ∨ c = 6 := by omega
    rcases this with rfl | rfl | rfl | rfl | rfl | rfl <;> exact x_cp_at hj
  · have n0 : c ≠ 32 := by omega
    rw [x_un (show c ≠ 38 by omega), x_un (show c ≠ 37 by omega), x_un (show c ≠ 36 by omega), x_un (show c ≠ 35 by omega), x_un (show c ≠ 34 by omega), x_un (show c ≠ 33 by omega), x_up_k n0, x_up_k n0, x_up_k n0]
theorem c_copyS_32_92 (hb : f 92 0 = 0 ∨ f 92 0 = 1) : x_Ct 58 (d + 1) [.ref 32, .ref 92] (f, g, x_HR r t, dm, n) (fun q h' => q = none ∧ ∃ F, h' = (F, g, x_HR r t, dm, n) ∧ x_CS f 32 92 F) := by
  refine x_Ct_w (by decide) (Nat.le_of_ble_eq_true rfl) ok58 [] 6 ?_
  refine And.intro hb ?_
  refine And.intro (by unfold x_cp; decide) ?_
  refine And.intro (by unfold x_cp; decide) ?_
  refine And.intro (by unfold x_cp; decide) ?_
  refine And.intro (by unfold x_cp; decide) ?_
  refine And.intro (by unfold x_cp; decide) ?_
  refine And.intro (by unfold x_cp; decide) ?_
  refine And.intro ?_ ⟨trivial, Nat.le_refl _, Nat.le_refl _⟩
  refine ⟨rfl, _, rfl, fun j hj => ?_, fun c j c1 c2 hj => ?_, fun c hc => ?_⟩
  · have : j = 0 ∨ j = 1 ∨ j = 2 := by omega
    rcases this with rfl | rfl | rfl <;> rfl
  · have : c = 1 ∨ c = 2 ∨ c = 3 ∨ c = 4 ∨ c = 5 ∨ c = 6 := by omega
    rcases this with rfl | rfl | rfl | rfl | rfl | rfl <;> exact x_cp_at hj
  · have n0 : c ≠ 32 := by omega
    rw [x_un (show c ≠ 38 by omega), x_un (show c ≠ 37 by omega), x_un (show c ≠ 36 by omega), x_un (show c ≠ 35 by omega), x_un (show c ≠ 34 by omega), x_un (show c ≠ 33 by omega), x_up_k n0, x_up_k n0, x_up_k n0]
theorem c_copyS_39_58 (hb : f 58 0 = 0 ∨ f 58 0 = 1) : x_Ct 58 (d + 1) [.ref 39, .ref 58] (f, g, x_HR r t, dm, n) (fun q h' => q = none ∧ ∃ F, h' = (F, g, x_HR r t, dm, n) ∧ x_CS f 39 58 F) := by
  refine x_Ct_w (by decide) (Nat.le_of_ble_eq_true rfl) ok58 [] 6 ?_
  refine And.intro hb ?_
  refine And.intro (by unfold x_cp; decide) ?_
  refine And.intro (by unfold x_cp; decide) ?_
  refine And.intro (by unfold x_cp; decide) ?_
  refine And.intro (by unfold x_cp; decide) ?_
  refine And.intro (by unfold x_cp; decide) ?_
  refine And.intro (by unfold x_cp; decide) ?_
  refine And.intro ?_ ⟨trivial, Nat.le_refl _, Nat.le_refl _⟩
  refine ⟨rfl, _, rfl, fun j hj => ?_, fun c j c1 c2 hj => ?_, fun c hc => ?_⟩
  · have : j = 0 ∨ j = 1 ∨ j = 2 := by omega
    rcases this with rfl | rfl | rfl <;> rfl
  · have : c = 1 ∨ c = 2 ∨ c = 3 ∨ c = 4 ∨ c = 5 ∨ c = 6 := by omega
    rcases this with rfl | rfl | rfl | rfl | rfl | rfl <;> exact x_cp_at hj
  · have n0 : c ≠ 39 := by omega
    rw [x_un (show c ≠ 45 by omega), x_un (show c ≠ 44 by omega), x_un (show c ≠ 43 by omega), x_un (show c ≠ 42 by omega), x_un (show c ≠ 41 by omega), x_un (show c ≠ 40 by omega), x_up_k n0, x_up_k n0, x_up_k n0]
theorem c_copyS_39_75 (hb : f 75 0 = 0 ∨ f 75 0 = 1) : x_Ct 58 (d + 1) [.ref 39, .ref 75] (f, g, x_HR r t, dm, n) (fun q h' => q = none ∧ ∃ F, h' = (F, g, x_HR r t, dm, n) ∧ x_CS f 39 75 F) := by
  refine x_Ct_w (by decide) (Nat.le_of_ble_eq_true rfl) ok58 [] 6 ?_
  refine And.intro hb ?_
  refine And.intro (by unfold x_cp; decide) ?_
  refine And.intro (by unfold x_cp; decide) ?_
  refine And.intro (by unfold x_cp; decide) ?_
  refine And.intro (by unfold x_cp; decide) ?_
  refine And.intro (by unfold x_cp; decide) ?_
  refine And.intro (by unfold x_cp; decide) ?_
  refine And.intro ?_ ⟨trivial, Nat.le_refl _, Nat.le_refl _⟩
  refine ⟨rfl, _, rfl, fun j hj => ?_, fun c j c1 c2 hj => ?_, fun c hc => ?_⟩
  · have : j = 0 ∨ j = 1 ∨ j = 2 := by omega
    rcases this with rfl | rfl | rfl <;> rfl
  · have : c = 1 ∨ c = 2 ∨ c = 3 ∨ c = 4 ∨ c = 5 ∨ c = 6 := by omega
    rcases this with rfl | rfl | rfl | rfl | rfl | rfl <;> exact x_cp_at hj
  · have n0 : c ≠ 39 := by omega
    rw [x_un (show c ≠ 45 by omega), x_un (show c ≠ 44 by omega), x_un (show c ≠ 43 by omega), x_un (show c ≠ 42 by omega), x_un (show c ≠ 41 by omega), x_un (show c ≠ 40 by omega), x_up_k n0, x_up_k n0, x_up_k n0]
theorem c_copyS_39_92 (hb : f 92 0 = 0 ∨ f 92 0 = 1) : x_Ct 58 (d + 1) [.ref 39, .ref 92] (f, g, x_HR r t, dm, n) (fun q h' => q = none ∧ ∃ F, h' = (F, g, x_HR r t, dm, n) ∧ x_CS f 39 92 F) := by
  refine x_Ct_w (by decide) (Nat.le_of_ble_eq_true rfl) ok58 [] 6 ?_
  refine And.intro hb ?_
  refine And.intro (by unfold x_cp; decide) ?_
  refine And.intro (by unfold x_cp; decide) ?_
  refine And.intro (by unfold x_cp; decide) ?_
  refine And.intro (by unfold x_cp; decide) ?_
  refine And.intro (by unfold x_cp; decide) ?_
  refine And.intro (by unfold x_cp; decide) ?_
  refine And.intro ?_ ⟨trivial, Nat.le_refl _, Nat.le_refl _⟩
  refine ⟨rfl, _, rfl, fun j hj => ?_, fun c j c1 c2 hj => ?_, fun c hc => ?_⟩
  · have : j = 0 ∨ j = 1 ∨ j = 2 := by omega
    rcases this with rfl | rfl | rfl <;> rfl
  · have : c = 1 ∨ c = 2 ∨ c = 3 ∨ c = 4 ∨ c = 5 ∨ c = 6 := by omega
    rcases this with rfl | rfl | rfl | rfl | rfl | rfl <;> exact x_cp_at hj
  · have n0 : c ≠ 39 := by omega
    rw [x_un (show c ≠ 45 by omega), x_un (show c ≠ 44 by omega), x_un (show c ≠ 43 by omega), x_un (show c ≠ 42 by omega), x_un (show c ≠ 41 by omega), x_un (show c ≠ 40 by omega), x_up_k n0, x_up_k n0, x_up_k n0]
theorem c_mark_12_32 {μ : Nat} (hm : f 0 14 = nI μ) (hμ : μ ≤ 3) (hb : f 32 0 = 0 ∨ f 32 0 = 1) : x_Ct 154 (d + 2) [.ref 0] (f, g, x_HR 12 32, dm, n) (fun q h' => if μ = 3 then q = some (.int (-1)) ∧ h' = (x_up f 0 0 4, g, x_HR 12 32, dm, n) else q = some (.int (nI (μ + 1))) ∧ ∃ F1 G1 F2, x_CP f g (48 + 17 * μ) 12 F1 G1 ∧ x_CS F1 (58 + 17 * μ) 32 F2 ∧ h' = (x_up (x_up F2 0 14 (nI (μ + 1))) 0 0 0, G1, x_HR 12 32, dm, n)) := by
  have three : μ = 0 ∨ μ = 1 ∨ μ = 2 ∨ μ = 3 := by omega
  refine x_Ct_w (by decide) (Nat.le_of_ble_eq_true rfl) ok154 [22] 6 ?_
  rcases three with rfl | rfl | rfl | rfl
  · have tail : x_J 154 (d + 2) (fun q h' => if 0 = 3 then q = some (.int (-1)) ∧ h' = (x_up f 0 0 4, g, x_HR 12 32, dm, n) else q = some (.int (nI (0 + 1))) ∧ ∃ F1 G1 F2, x_CP f g (48 + 17 * 0) 12 F1 G1 ∧ x_CS F1 (58 + 17 * 0) 32 F2 ∧ h' = (x_up (x_up F2 0 14 (nI (0 + 1))) 0 0 0, G1, x_HR 12 32, dm, n)) 22 [some (.ref 0)] [.int (nI 0), .ref 46] (f, g, x_HR 12 32, dm, n) 0 0 := by
      refine x_wp_ok ok154 [38] 6 ?_
      refine And.intro (x_ix_nI (j := 0) (by decide) (by decide)) ?_
      refine Exists.intro _ (And.intro (c_copyL_48_12 (d := d)) (And.intro (And.intro (Nat.zero_le _) (Nat.zero_le _)) (fun q h' hpo => ?_)))
      obtain ⟨rfl, F1, G1, rfl, hcp⟩ := hpo
      have e0 : F1 0 = f 0 := hcp.2.2.2.2.2.1 0 (by decide)
      have et : F1 32 = f 32 := hcp.2.2.2.2.2.1 32 (by decide)
      have tail2 : x_J 154 (d + 2) (fun q h' => if 0 = 3 then q = some (.int (-1)) ∧ h' = (x_up f 0 0 4, g, x_HR 12 32, dm, n) else q = some (.int (nI (0 + 1))) ∧ ∃ F1 G1 F2, x_CP f g (48 + 17 * 0) 12 F1 G1 ∧ x_CS F1 (58 + 17 * 0) 32 F2 ∧ h' = (x_up (x_up F2 0 14 (nI (0 + 1))) 0 0 0, G1, x_HR 12 32, dm, n)) 38 [some (.ref 0)] [.int (nI 0), .ref 47] (F1, G1, x_HR 12 32, dm, n) 0 0 := by
        refine x_wp_ok ok154 [] 6 ?_
        refine And.intro (x_ix_nI (j := 0) (by decide) (by decide)) ?_
        refine Exists.intro _ (And.intro (c_copyS_58_32 (d := d) (by rw [et]; exact hb)) (And.intro (And.intro (Nat.zero_le _) (Nat.zero_le _)) (fun q h' hpo => ?_)))
        obtain ⟨rfl, F2, rfl, hcs⟩ := hpo
        have e2 : F2 0 14 + 1 = nI (0 + 1) := by rw [hcs.2.2 0 (by decide), e0, hm]; rfl
        refine Exists.intro _ (And.intro c_answer (And.intro (And.intro (Nat.zero_le _) (Nat.zero_le _)) (fun q h' hpo => ?_)))
        obtain ⟨rfl, rfl⟩ := hpo
        refine And.intro ?_ ⟨trivial, Nat.le_refl _, Nat.le_refl _⟩
        show (if (0 : Nat) = 3 then _ else _)
        rw [if_neg (by decide)]
        refine ⟨congrArg (fun z => some (Value.int z)) ((show x_up F2 0 14 (F2 0 14 + 1) 0 14 = F2 0 14 + 1 from x_up_s _ _ _ _).trans e2), F1, G1, F2, hcp, hcs, ?_⟩
        rw [← e2]
        rfl
      rw [← hm, ← e0] at tail2
      exact tail2
    refine And.intro (fun _ => ?_) (fun c => absurd (show f 0 14 < nI 3 by rw [hm]; decide) c)
    rw [← hm] at tail
    exact tail
  · have tail : x_J 154 (d + 2) (fun q h' => if 1 = 3 then q = some (.int (-1)) ∧ h' = (x_up f 0 0 4, g, x_HR 12 32, dm, n) else q = some (.int (nI (1 + 1))) ∧ ∃ F1 G1 F2, x_CP f g (48 + 17 * 1) 12 F1 G1 ∧ x_CS F1 (58 + 17 * 1) 32 F2 ∧ h' = (x_up (x_up F2 0 14 (nI (1 + 1))) 0 0 0, G1, x_HR 12 32, dm, n)) 22 [some (.ref 0)] [.int (nI 1), .ref 46] (f, g, x_HR 12 32, dm, n) 0 0 := by
      refine x_wp_ok ok154 [38] 6 ?_
      refine And.intro (x_ix_nI (j := 1) (by decide) (by decide)) ?_
      refine Exists.intro _ (And.intro (c_copyL_65_12 (d := d)) (And.intro (And.intro (Nat.zero_le _) (Nat.zero_le _)) (fun q h' hpo => ?_)))
      obtain ⟨rfl, F1, G1, rfl, hcp⟩ := hpo
      have e0 : F1 0 = f 0 := hcp.2.2.2.2.2.1 0 (by decide)
      have et : F1 32 = f 32 := hcp.2.2.2.2.2.1 32 (by decide)
      have tail2 : x_J 154 (d + 2) (fun q h' => if 1 = 3 then q = some (.int (-1)) ∧ h' = (x_up f 0 0 4, g, x_HR 12 32, dm, n) else q = some (.int (nI (1 + 1))) ∧ ∃ F1 G1 F2, x_CP f g (48 + 17 * 1) 12 F1 G1 ∧ x_CS F1 (58 + 17 * 1) 32 F2 ∧ h' = (x_up (x_up F2 0 14 (nI (1 + 1))) 0 0 0, G1, x_HR 12 32, dm, n)) 38 [some (.ref 0)] [.int (nI 1), .ref 47] (F1, G1, x_HR 12 32, dm, n) 0 0 := by
        refine x_wp_ok ok154 [] 6 ?_
        refine And.intro (x_ix_nI (j := 1) (by decide) (by decide)) ?_
        refine Exists.intro _ (And.intro (c_copyS_75_32 (d := d) (by rw [et]; exact hb)) (And.intro (And.intro (Nat.zero_le _) (Nat.zero_le _)) (fun q h' hpo => ?_)))
        obtain ⟨rfl, F2, rfl, hcs⟩ := hpo
        have e2 : F2 0 14 + 1 = nI (1 + 1) := by rw [hcs.2.2 0 (by decide), e0, hm]; rfl
        refine Exists.intro _ (And.intro c_answer (And.intro (And.intro (Nat.zero_le _) (Nat.zero_le _)) (fun q h' hpo => ?_)))
        obtain ⟨rfl, rfl⟩ := hpo
        refine And.intro ?_ ⟨trivial, Nat.le_refl _, Nat.le_refl _⟩
        show (if (1 : Nat) = 3 then _ else _)
        rw [if_neg (by decide)]
        refine ⟨congrArg (fun z => some (Value.int z)) ((show x_up F2 0 14 (F2 0 14 + 1) 0 14 = F2 0 14 + 1 from x_up_s _ _ _ _).trans e2), F1, G1, F2, hcp, hcs, ?_⟩
        rw [← e2]
        rfl
      rw [← hm, ← e0] at tail2
      exact tail2
    refine And.intro (fun _ => ?_) (fun c => absurd (show f 0 14 < nI 3 by rw [hm]; decide) c)
    rw [← hm] at tail
    exact tail
  · have tail : x_J 154 (d + 2) (fun q h' => if 2 = 3 then q = some (.int (-1)) ∧ h' = (x_up f 0 0 4, g, x_HR 12 32, dm, n) else q = some (.int (nI (2 + 1))) ∧ ∃ F1 G1 F2, x_CP f g (48 + 17 * 2) 12 F1 G1 ∧ x_CS F1 (58 + 17 * 2) 32 F2 ∧ h' = (x_up (x_up F2 0 14 (nI (2 + 1))) 0 0 0, G1, x_HR 12 32, dm, n)) 22 [some (.ref 0)] [.int (nI 2), .ref 46] (f, g, x_HR 12 32, dm, n) 0 0 := by
      refine x_wp_ok ok154 [38] 6 ?_
      refine And.intro (x_ix_nI (j := 2) (by decide) (by decide)) ?_
      refine Exists.intro _ (And.intro (c_copyL_82_12 (d := d)) (And.intro (And.intro (Nat.zero_le _) (Nat.zero_le _)) (fun q h' hpo => ?_)))
      obtain ⟨rfl, F1, G1, rfl, hcp⟩ := hpo
      have e0 : F1 0 = f 0 := hcp.2.2.2.2.2.1 0 (by decide)
      have et : F1 32 = f 32 := hcp.2.2.2.2.2.1 32 (by decide)
      have tail2 : x_J 154 (d + 2) (fun q h' => if 2 = 3 then q = some (.int (-1)) ∧ h' = (x_up f 0 0 4, g, x_HR 12 32, dm, n) else q = some (.int (nI (2 + 1))) ∧ ∃ F1 G1 F2, x_CP f g (48 + 17 * 2) 12 F1 G1 ∧ x_CS F1 (58 + 17 * 2) 32 F2 ∧ h' = (x_up (x_up F2 0 14 (nI (2 + 1))) 0 0 0, G1, x_HR 12 32, dm, n)) 38 [some (.ref 0)] [.int (nI 2), .ref 47] (F1, G1, x_HR 12 32, dm, n) 0 0 := by
        refine x_wp_ok ok154 [] 6 ?_
        refine And.intro (x_ix_nI (j := 2) (by decide) (by decide)) ?_
        refine Exists.intro _ (And.intro (c_copyS_92_32 (d := d) (by rw [et]; exact hb)) (And.intro (And.intro (Nat.zero_le _) (Nat.zero_le _)) (fun q h' hpo => ?_)))
        obtain ⟨rfl, F2, rfl, hcs⟩ := hpo
        have e2 : F2 0 14 + 1 = nI (2 + 1) := by rw [hcs.2.2 0 (by decide), e0, hm]; rfl
        refine Exists.intro _ (And.intro c_answer (And.intro (And.intro (Nat.zero_le _) (Nat.zero_le _)) (fun q h' hpo => ?_)))
        obtain ⟨rfl, rfl⟩ := hpo
        refine And.intro ?_ ⟨trivial, Nat.le_refl _, Nat.le_refl _⟩
        show (if (2 : Nat) = 3 then _ else _)
        rw [if_neg (by decide)]
        refine ⟨congrArg (fun z => some (Value.int z)) ((show x_up F2 0 14 (F2 0 14 + 1) 0 14 = F2 0 14 + 1 from x_up_s _ _ _ _).trans e2), F1, G1, F2, hcp, hcs, ?_⟩
        rw [← e2]
        rfl
      rw [← hm, ← e0] at tail2
      exact tail2
    refine And.intro (fun _ => ?_) (fun c => absurd (show f 0 14 < nI 3 by rw [hm]; decide) c)
    rw [← hm] at tail
    exact tail
  · refine And.intro (fun c => absurd (show f 0 14 < nI 3 from c) (by rw [hm]; decide)) (fun _ => ?_)
    refine Exists.intro _ (And.intro c_refuse (And.intro (And.intro (Nat.zero_le _) (Nat.zero_le _)) (fun q h' hpo => ?_)))
    obtain ⟨rfl, rfl⟩ := hpo
    refine And.intro ?_ ⟨trivial, Nat.le_refl _, Nat.le_refl _⟩
    show (if (3 : Nat) = 3 then _ else _)
    rw [if_pos rfl]
    exact ⟨rfl, rfl⟩
theorem c_undo_12_32 {μ : Nat} (hm : f 0 14 = nI μ) (hμ : μ ≤ 3) (hb : ∀ i, i < μ → f (58 + 17 * i) 0 = 0 ∨ f (58 + 17 * i) 0 = 1) : x_Ct 155 (d + 2) [.ref 0] (f, g, x_HR 12 32, dm, n) (fun q h' => if μ = 0 then q = some (.int (-1)) ∧ h' = (x_up f 0 0 6, g, x_HR 12 32, dm, n) else q = some (.int (nI (μ - 1))) ∧ ∃ F1 G1 F2, x_CP (x_up f 0 14 (nI (μ - 1))) g 12 (48 + 17 * (μ - 1)) F1 G1 ∧ x_CS F1 32 (58 + 17 * (μ - 1)) F2 ∧ h' = (x_up F2 0 0 0, G1, x_HR 12 32, dm, n)) := by
  have three : μ = 0 ∨ μ = 1 ∨ μ = 2 ∨ μ = 3 := by omega
  obtain ⟨Po, hPo⟩ : ∃ Po : Option Value → xH → Prop, Po = (fun q h' => if μ = 0 then q = some (.int (-1)) ∧ h' = (x_up f 0 0 6, g, x_HR 12 32, dm, n) else q = some (.int (nI (μ - 1))) ∧ ∃ F1 G1 F2, x_CP (x_up f 0 14 (nI (μ - 1))) g 12 (48 + 17 * (μ - 1)) F1 G1 ∧ x_CS F1 32 (58 + 17 * (μ - 1)) F2 ∧ h' = (x_up F2 0 0 0, G1, x_HR 12 32, dm, n)) := ⟨_, rfl⟩
  rw [← hPo]
  refine x_Ct_w (by decide) (Nat.le_of_ble_eq_true rfl) ok155 [36] 6 ?_
  rcases three with rfl | rfl | rfl | rfl
  · refine And.intro (fun c => absurd (show nI 0 < f 0 14 from c) (by rw [hm]; decide)) (fun _ => ?_)
    refine Exists.intro _ (And.intro c_refuse (And.intro (And.intro (Nat.zero_le _) (Nat.zero_le _)) (fun q h' hpo => ?_)))
    obtain ⟨rfl, rfl⟩ := hpo
    refine And.intro ?_ ⟨trivial, Nat.le_refl _, Nat.le_refl _⟩
    rw [hPo]
    show (if (0 : Nat) = 0 then _ else _)
    rw [if_pos rfl]
    exact ⟨rfl, rfl⟩
  · have hb := hb 0 (by decide)
    obtain ⟨f1, hf1⟩ : ∃ f1, f1 = x_up f 0 14 (nI 0) := ⟨_, rfl⟩
    have e14 : f1 0 14 = nI 0 := by rw [hf1]; exact x_up_s _ _ _ _
    have e58 : f1 58 = f 58 := by rw [hf1]; exact x_up_k (by decide)
    have es : f 0 14 - 1 = nI 0 := by rw [hm]; rfl
    have tail : x_J 155 (d + 2) Po 36 [some (.ref 0)] [.int (nI 0), .ref 46, .ref 12] (f1, g, x_HR 12 32, dm, n) 0 0 := by
      refine x_wp_ok ok155 [52] 6 ?_
      refine And.intro (x_ix_nI (j := 0) (by decide) (by decide)) ?_
      refine Exists.intro _ (And.intro (c_copyL_12_48 (d := d)) (And.intro (And.intro (Nat.zero_le _) (Nat.zero_le _)) (fun q h' hpo => ?_)))
      obtain ⟨rfl, F1, G1, rfl, hcp⟩ := hpo
      have e0 : F1 0 = f1 0 := hcp.2.2.2.2.2.1 0 (by decide)
      have et : F1 58 = f1 58 := hcp.2.2.2.2.2.1 58 (by decide)
      have tail2 : x_J 155 (d + 2) Po 52 [some (.ref 0)] [.int (nI 0), .ref 47, .ref 32] (F1, G1, x_HR 12 32, dm, n) 0 0 := by
        refine x_wp_ok ok155 [] 6 ?_
        refine And.intro (x_ix_nI (j := 0) (by decide) (by decide)) ?_
        refine Exists.intro _ (And.intro (c_copyS_32_58 (d := d) (by rw [et, e58]; exact hb)) (And.intro (And.intro (Nat.zero_le _) (Nat.zero_le _)) (fun q h' hpo => ?_)))
        obtain ⟨rfl, F2, rfl, hcs⟩ := hpo
        have e2 : F2 0 14 = nI 0 := by rw [hcs.2.2 0 (by decide), e0, e14]
        refine Exists.intro _ (And.intro c_answer (And.intro (And.intro (Nat.zero_le _) (Nat.zero_le _)) (fun q h' hpo => ?_)))
        obtain ⟨rfl, rfl⟩ := hpo
        refine And.intro ?_ ⟨trivial, Nat.le_refl _, Nat.le_refl _⟩
        rw [hPo]
        show (if (1 : Nat) = 0 then _ else _)
        rw [if_neg (by decide)]
        exact ⟨congrArg (fun z => some (Value.int z)) e2, F1, G1, F2, hf1 ▸ hcp, hcs, rfl⟩
      rw [← e14, ← e0] at tail2
      exact tail2
    refine And.intro (fun _ => ?_) (fun c => absurd (show nI 0 < f 0 14 by rw [hm]; decide) c)
    rw [← e14, hf1, ← es] at tail
    exact tail
  · have hb := hb 1 (by decide)
    obtain ⟨f1, hf1⟩ : ∃ f1, f1 = x_up f 0 14 (nI 1) := ⟨_, rfl⟩
    have e14 : f1 0 14 = nI 1 := by rw [hf1]; exact x_up_s _ _ _ _
    have e58 : f1 75 = f 75 := by rw [hf1]; exact x_up_k (by decide)
    have es : f 0 14 - 1 = nI 1 := by rw [hm]; rfl
    have tail : x_J 155 (d + 2) Po 36 [some (.ref 0)] [.int (nI 1), .ref 46, .ref 12] (f1, g, x_HR 12 32, dm, n) 0 0 := by
      refine x_wp_ok ok155 [52] 6 ?_
      refine And.intro (x_ix_nI (j := 1) (by decide) (by decide)) ?_
      refine Exists.intro _ (And.intro (c_copyL_12_65 (d := d)) (And.intro (And.intro (Nat.zero_le _) (Nat.zero_le _)) (fun q h' hpo => ?_)))
      obtain ⟨rfl, F1, G1, rfl, hcp⟩ := hpo
      have e0 : F1 0 = f1 0 := hcp.2.2.2.2.2.1 0 (by decide)
      have et : F1 75 = f1 75 := hcp.2.2.2.2.2.1 75 (by decide)
      have tail2 : x_J 155 (d + 2) Po 52 [some (.ref 0)] [.int (nI 1), .ref 47, .ref 32] (F1, G1, x_HR 12 32, dm, n) 0 0 := by
        refine x_wp_ok ok155 [] 6 ?_
        refine And.intro (x_ix_nI (j := 1) (by decide) (by decide)) ?_
        refine Exists.intro _ (And.intro (c_copyS_32_75 (d := d) (by rw [et, e58]; exact hb)) (And.intro (And.intro (Nat.zero_le _) (Nat.zero_le _)) (fun q h' hpo => ?_)))
        obtain ⟨rfl, F2, rfl, hcs⟩ := hpo
        have e2 : F2 0 14 = nI 1 := by rw [hcs.2.2 0 (by decide), e0, e14]
        refine Exists.intro _ (And.intro c_answer (And.intro (And.intro (Nat.zero_le _) (Nat.zero_le _)) (fun q h' hpo => ?_)))
        obtain ⟨rfl, rfl⟩ := hpo
        refine And.intro ?_ ⟨trivial, Nat.le_refl _, Nat.le_refl _⟩
        rw [hPo]
        show (if (2 : Nat) = 0 then _ else _)
        rw [if_neg (by decide)]
        exact ⟨congrArg (fun z => some (Value.int z)) e2, F1, G1, F2, hf1 ▸ hcp, hcs, rfl⟩
      rw [← e14, ← e0] at tail2
      exact tail2
    refine And.intro (fun _ => ?_) (fun c => absurd (show nI 0 < f 0 14 by rw [hm]; decide) c)
    rw [← e14, hf1, ← es] at tail
    exact tail
  · have hb := hb 2 (by decide)
    obtain ⟨f1, hf1⟩ : ∃ f1, f1 = x_up f 0 14 (nI 2) := ⟨_, rfl⟩
    have e14 : f1 0 14 = nI 2 := by rw [hf1]; exact x_up_s _ _ _ _
    have e58 : f1 92 = f 92 := by rw [hf1]; exact x_up_k (by decide)
    have es : f 0 14 - 1 = nI 2 := by rw [hm]; rfl
    have tail : x_J 155 (d + 2) Po 36 [some (.ref 0)] [.int (nI 2), .ref 46, .ref 12] (f1, g, x_HR 12 32, dm, n) 0 0 := by
      refine x_wp_ok ok155 [52] 6 ?_
      refine And.intro (x_ix_nI (j := 2) (by decide) (by decide)) ?_
      refine Exists.intro _ (And.intro (c_copyL_12_82 (d := d)) (And.intro (And.intro (Nat.zero_le _) (Nat.zero_le _)) (fun q h' hpo => ?_)))
      obtain ⟨rfl, F1, G1, rfl, hcp⟩ := hpo
      have e0 : F1 0 = f1 0 := hcp.2.2.2.2.2.1 0 (by decide)
      have et : F1 92 = f1 92 := hcp.2.2.2.2.2.1 92 (by decide)
      have tail2 : x_J 155 (d + 2) Po 52 [some (.ref 0)] [.int (nI 2), .ref 47, .ref 32] (F1, G1, x_HR 12 32, dm, n) 0 0 := by
        refine x_wp_ok ok155 [] 6 ?_
        refine And.intro (x_ix_nI (j := 2) (by decide) (by decide)) ?_
        refine Exists.intro _ (And.intro (c_copyS_32_92 (d := d) (by rw [et, e58]; exact hb)) (And.intro (And.intro (Nat.zero_le _) (Nat.zero_le _)) (fun q h' hpo => ?_)))
        obtain ⟨rfl, F2, rfl, hcs⟩ := hpo
        have e2 : F2 0 14 = nI 2 := by rw [hcs.2.2 0 (by decide), e0, e14]
        refine Exists.intro _ (And.intro c_answer (And.intro (And.intro (Nat.zero_le _) (Nat.zero_le _)) (fun q h' hpo => ?_)))
        obtain ⟨rfl, rfl⟩ := hpo
        refine And.intro ?_ ⟨trivial, Nat.le_refl _, Nat.le_refl _⟩
        rw [hPo]
        show (if (3 : Nat) = 0 then _ else _)
        rw [if_neg (by decide)]
        exact ⟨congrArg (fun z => some (Value.int z)) e2, F1, G1, F2, hf1 ▸ hcp, hcs, rfl⟩
      rw [← e14, ← e0] at tail2
      exact tail2
    refine And.intro (fun _ => ?_) (fun c => absurd (show nI 0 < f 0 14 by rw [hm]; decide) c)
    rw [← e14, hf1, ← es] at tail
    exact tail
theorem c_mark_12_39 {μ : Nat} (hm : f 0 14 = nI μ) (hμ : μ ≤ 3) (hb : f 39 0 = 0 ∨ f 39 0 = 1) : x_Ct 154 (d + 2) [.ref 0] (f, g, x_HR 12 39, dm, n) (fun q h' => if μ = 3 then q = some (.int (-1)) ∧ h' = (x_up f 0 0 4, g, x_HR 12 39, dm, n) else q = some (.int (nI (μ + 1))) ∧ ∃ F1 G1 F2, x_CP f g (48 + 17 * μ) 12 F1 G1 ∧ x_CS F1 (58 + 17 * μ) 39 F2 ∧ h' = (x_up (x_up F2 0 14 (nI (μ + 1))) 0 0 0, G1, x_HR 12 39, dm, n)) := by
  have three : μ = 0 ∨ μ = 1 ∨ μ = 2 ∨ μ = 3 := by omega
  refine x_Ct_w (by decide) (Nat.le_of_ble_eq_true rfl) ok154 [22] 6 ?_
  rcases three with rfl | rfl | rfl | rfl
  · have tail : x_J 154 (d + 2) (fun q h' => if 0 = 3 then q = some (.int (-1)) ∧ h' = (x_up f 0 0 4, g, x_HR 12 39, dm, n) else q = some (.int (nI (0 + 1))) ∧ ∃ F1 G1 F2, x_CP f g (48 + 17 * 0) 12 F1 G1 ∧ x_CS F1 (58 + 17 * 0) 39 F2 ∧ h' = (x_up (x_up F2 0 14 (nI (0 + 1))) 0 0 0, G1, x_HR 12 39, dm, n)) 22 [some (.ref 0)] [.int (nI 0), .ref 46] (f, g, x_HR 12 39, dm, n) 0 0 := by
      refine x_wp_ok ok154 [38] 6 ?_
      refine And.intro (x_ix_nI (j := 0) (by decide) (by decide)) ?_
      refine Exists.intro _ (And.intro (c_copyL_48_12 (d := d)) (And.intro (And.intro (Nat.zero_le _) (Nat.zero_le _)) (fun q h' hpo => ?_)))
      obtain ⟨rfl, F1, G1, rfl, hcp⟩ := hpo
      have e0 : F1 0 = f 0 := hcp.2.2.2.2.2.1 0 (by decide)
      have et : F1 39 = f 39 := hcp.2.2.2.2.2.1 39 (by decide)
      have tail2 : x_J 154 (d + 2) (fun q h' => if 0 = 3 then q = some (.int (-1)) ∧ h' = (x_up f 0 0 4, g, x_HR 12 39, dm, n) else q = some (.int (nI (0 + 1))) ∧ ∃ F1 G1 F2, x_CP f g (48 + 17 * 0) 12 F1 G1 ∧ x_CS F1 (58 + 17 * 0) 39 F2 ∧ h' = (x_up (x_up F2 0 14 (nI (0 + 1))) 0 0 0, G1, x_HR 12 39, dm, n)) 38 [some (.ref 0)] [.int (nI 0), .ref 47] (F1, G1, x_HR 12 39, dm, n) 0 0 := by
        refine x_wp_ok ok154 [] 6 ?_
        refine And.intro (x_ix_nI (j := 0) (by decide) (by decide)) ?_
        refine Exists.intro _ (And.intro (c_copyS_58_39 (d := d) (by rw [et]; exact hb)) (And.intro (And.intro (Nat.zero_le _) (Nat.zero_le _)) (fun q h' hpo => ?_)))
        obtain ⟨rfl, F2, rfl, hcs⟩ := hpo
        have e2 : F2 0 14 + 1 = nI (0 + 1) := by rw [hcs.2.2 0 (by decide), e0, hm]; rfl
        refine Exists.intro _ (And.intro c_answer (And.intro (And.intro (Nat.zero_le _) (Nat.zero_le _)) (fun q h' hpo => ?_)))
        obtain ⟨rfl, rfl⟩ := hpo
        refine And.intro ?_ ⟨trivial, Nat.le_refl _, Nat.le_refl _⟩
        show (if (0 : Nat) = 3 then _ else _)
        rw [if_neg (by decide)]
        refine ⟨congrArg (fun z => some (Value.int z)) ((show x_up F2 0 14 (F2 0 14 + 1) 0 14 = F2 0 14 + 1 from x_up_s _ _ _ _).trans e2), F1, G1, F2, hcp, hcs, ?_⟩
        rw [← e2]
        rfl
      rw [← hm, ← e0] at tail2
      exact tail2
    refine And.intro (fun _ => ?_) (fun c => absurd (show f 0 14 < nI 3 by rw [hm]; decide) c)
    rw [← hm] at tail
    exact tail
  · have tail : x_J 154 (d + 2) (fun q h' => if 1 = 3 then q = some (.int (-1)) ∧ h' = (x_up f 0 0 4, g, x_HR 12 39, dm, n) else q = some (.int (nI (1 + 1))) ∧ ∃ F1 G1 F2, x_CP f g (48 + 17 * 1) 12 F1 G1 ∧ x_CS F1 (58 + 17 * 1) 39 F2 ∧ h' = (x_up (x_up F2 0 14 (nI (1 + 1))) 0 0 0, G1, x_HR 12 39, dm, n)) 22 [some (.ref 0)] [.int (nI 1), .ref 46] (f, g, x_HR 12 39, dm, n) 0 0 := by
      refine x_wp_ok ok154 [38] 6 ?_
      refine And.intro (x_ix_nI (j := 1) (by decide) (by decide)) ?_
      refine Exists.intro _ (And.intro (c_copyL_65_12 (d := d)) (And.intro (And.intro (Nat.zero_le _) (Nat.zero_le _)) (fun q h' hpo => ?_)))
      obtain ⟨rfl, F1, G1, rfl, hcp⟩ := hpo
      have e0 : F1 0 = f 0 := hcp.2.2.2.2.2.1 0 (by decide)
      have et : F1 39 = f 39 := hcp.2.2.2.2.2.1 39 (by decide)
      have tail2 : x_J 154 (d + 2) (fun q h' => if 1 = 3 then q = some (.int (-1)) ∧ h' = (x_up f 0 0 4, g, x_HR 12 39, dm, n) else q = some (.int (nI (1 + 1))) ∧ ∃ F1 G1 F2, x_CP f g (48 + 17 * 1) 12 F1 G1 ∧ x_CS F1 (58 + 17 * 1) 39 F2 ∧ h' = (x_up (x_up F2 0 14 (nI (1 + 1))) 0 0 0, G1, x_HR 12 39, dm, n)) 38 [some (.ref 0)] [.int (nI 1), .ref 47] (F1, G1, x_HR 12 39, dm, n) 0 0 := by
        refine x_wp_ok ok154 [] 6 ?_
        refine And.intro (x_ix_nI (j := 1) (by decide) (by decide)) ?_
        refine Exists.intro _ (And.intro (c_copyS_75_39 (d := d) (by rw [et]; exact hb)) (And.intro (And.intro (Nat.zero_le _) (Nat.zero_le _)) (fun q h' hpo => ?_)))
        obtain ⟨rfl, F2, rfl, hcs⟩ := hpo
        have e2 : F2 0 14 + 1 = nI (1 + 1) := by rw [hcs.2.2 0 (by decide), e0, hm]; rfl
        refine Exists.intro _ (And.intro c_answer (And.intro (And.intro (Nat.zero_le _) (Nat.zero_le _)) (fun q h' hpo => ?_)))
        obtain ⟨rfl, rfl⟩ := hpo
        refine And.intro ?_ ⟨trivial, Nat.le_refl _, Nat.le_refl _⟩
        show (if (1 : Nat) = 3 then _ else _)
        rw [if_neg (by decide)]
        refine ⟨congrArg (fun z => some (Value.int z)) ((show x_up F2 0 14 (F2 0 14 + 1) 0 14 = F2 0 14 + 1 from x_up_s _ _ _ _).trans e2), F1, G1, F2, hcp, hcs, ?_⟩
        rw [← e2]
        rfl
      rw [← hm, ← e0] at tail2
      exact tail2
    refine And.intro (fun _ => ?_) (fun c => absurd (show f 0 14 < nI 3 by rw [hm]; decide) c)
    rw [← hm] at tail
    exact tail
  · have tail : x_J 154 (d + 2) (fun q h' => if 2 = 3 then q = some (.int (-1)) ∧ h' = (x_up f 0 0 4, g, x_HR 12 39, dm, n) else q = some (.int (nI (2 + 1))) ∧ ∃ F1 G1 F2, x_CP f g (48 + 17 * 2) 12 F1 G1 ∧ x_CS F1 (58 + 17 * 2) 39 F2 ∧ h' = (x_up (x_up F2 0 14 (nI (2 + 1))) 0 0 0, G1, x_HR 12 39, dm, n)) 22 [some (.ref 0)] [.int (nI 2), .ref 46] (f, g, x_HR 12 39, dm, n) 0 0 := by
      refine x_wp_ok ok154 [38] 6 ?_
      refine And.intro (x_ix_nI (j := 2) (by decide) (by decide)) ?_
      refine Exists.intro _ (And.intro (c_copyL_82_12 (d := d)) (And.intro (And.intro (Nat.zero_le _) (Nat.zero_le _)) (fun q h' hpo => ?_)))
      obtain ⟨rfl, F1, G1, rfl, hcp⟩ := hpo
      have e0 : F1 0 = f 0 := hcp.2.2.2.2.2.1 0 (by decide)
      have et : F1 39 = f 39 := hcp.2.2.2.2.2.1 39 (by decide)
      have tail2 : x_J 154 (d + 2) (fun q h' => if 2 = 3 then q = some (.int (-1)) ∧ h' = (x_up f 0 0 4, g, x_HR 12 39, dm, n) else q = some (.int (nI (2 + 1))) ∧ ∃ F1 G1 F2, x_CP f g (48 + 17 * 2) 12 F1 G1 ∧ x_CS F1 (58 + 17 * 2) 39 F2 ∧ h' = (x_up (x_up F2 0 14 (nI (2 + 1))) 0 0 0, G1, x_HR 12 39, dm, n)) 38 [some (.ref 0)] [.int (nI 2), .ref 47] (F1, G1, x_HR 12 39, dm, n) 0 0 := by
        refine x_wp_ok ok154 [] 6 ?_
        refine And.intro (x_ix_nI (j := 2) (by decide) (by decide)) ?_
        refine Exists.intro _ (And.intro (c_copyS_92_39 (d := d) (by rw [et]; exact hb)) (And.intro (And.intro (Nat.zero_le _) (Nat.zero_le _)) (fun q h' hpo => ?_)))
        obtain ⟨rfl, F2, rfl, hcs⟩ := hpo
        have e2 : F2 0 14 + 1 = nI (2 + 1) := by rw [hcs.2.2 0 (by decide), e0, hm]; rfl
        refine Exists.intro _ (And.intro c_answer (And.intro (And.intro (Nat.zero_le _) (Nat.zero_le _)) (fun q h' hpo => ?_)))
        obtain ⟨rfl, rfl⟩ := hpo
        refine And.intro ?_ ⟨trivial, Nat.le_refl _, Nat.le_refl _⟩
        show (if (2 : Nat) = 3 then _ else _)
        rw [if_neg (by decide)]
        refine ⟨congrArg (fun z => some (Value.int z)) ((show x_up F2 0 14 (F2 0 14 + 1) 0 14 = F2 0 14 + 1 from x_up_s _ _ _ _).trans e2), F1, G1, F2, hcp, hcs, ?_⟩
        rw [← e2]
        rfl
      rw [← hm, ← e0] at tail2
      exact tail2
    refine And.intro (fun _ => ?_) (fun c => absurd (show f 0 14 < nI 3 by rw [hm]; decide) c)
    rw [← hm] at tail
    exact tail
  · refine And.intro (fun c => absurd (show f 0 14 < nI 3 from c) (by rw [hm]; decide)) (fun _ => ?_)
    refine Exists.intro _ (And.intro c_refuse (And.intro (And.intro (Nat.zero_le _) (Nat.zero_le _)) (fun q h' hpo => ?_)))
    obtain ⟨rfl, rfl⟩ := hpo
    refine And.intro ?_ ⟨trivial, Nat.le_refl _, Nat.le_refl _⟩
    show (if (3 : Nat) = 3 then _ else _)
    rw [if_pos rfl]
    exact ⟨rfl, rfl⟩
theorem c_undo_12_39 {μ : Nat} (hm : f 0 14 = nI μ) (hμ : μ ≤ 3) (hb : ∀ i, i < μ → f (58 + 17 * i) 0 = 0 ∨ f (58 + 17 * i) 0 = 1) : x_Ct 155 (d + 2) [.ref 0] (f, g, x_HR 12 39, dm, n) (fun q h' => if μ = 0 then q = some (.int (-1)) ∧ h' = (x_up f 0 0 6, g, x_HR 12 39, dm, n) else q = some (.int (nI (μ - 1))) ∧ ∃ F1 G1 F2, x_CP (x_up f 0 14 (nI (μ - 1))) g 12 (48 + 17 * (μ - 1)) F1 G1 ∧ x_CS F1 39 (58 + 17 * (μ - 1)) F2 ∧ h' = (x_up F2 0 0 0, G1, x_HR 12 39, dm, n)) := by
  have three : μ = 0 ∨ μ = 1 ∨ μ = 2 ∨ μ = 3 := by omega
  obtain ⟨Po, hPo⟩ : ∃ Po : Option Value → xH → Prop, Po = (fun q h' => if μ = 0 then q = some (.int (-1)) ∧ h' = (x_up f 0 0 6, g, x_HR 12 39, dm, n) else q = some (.int (nI (μ - 1))) ∧ ∃ F1 G1 F2, x_CP (x_up f 0 14 (nI (μ - 1))) g 12 (48 + 17 * (μ - 1)) F1 G1 ∧ x_CS F1 39 (58 + 17 * (μ - 1)) F2 ∧ h' = (x_up F2 0 0 0, G1, x_HR 12 39, dm, n)) := ⟨_, rfl⟩
  rw [← hPo]
  refine x_Ct_w (by decide) (Nat.le_of_ble_eq_true rfl) ok155 [36] 6 ?_
  rcases three with rfl | rfl | rfl | rfl
  · refine And.intro (fun c => absurd (show nI 0 < f 0 14 from c) (by rw [hm]; decide)) (fun _ => ?_)
    refine Exists.intro _ (And.intro c_refuse (And.intro (And.intro (Nat.zero_le _) (Nat.zero_le _)) (fun q h' hpo => ?_)))
    obtain ⟨rfl, rfl⟩ := hpo
    refine And.intro ?_ ⟨trivial, Nat.le_refl _, Nat.le_refl _⟩
    rw [hPo]
    show (if (0 : Nat) = 0 then _ else _)
    rw [if_pos rfl]
    exact ⟨rfl, rfl⟩
  · have hb := hb 0 (by decide)
    obtain ⟨f1, hf1⟩ : ∃ f1, f1 = x_up f 0 14 (nI 0) := ⟨_, rfl⟩
    have e14 : f1 0 14 = nI 0 := by rw [hf1]; exact x_up_s _ _ _ _
    have e58 : f1 58 = f 58 := by rw [hf1]; exact x_up_k (by decide)
    have es : f 0 14 - 1 = nI 0 := by rw [hm]; rfl
    have tail : x_J 155 (d + 2) Po 36 [some (.ref 0)] [.int (nI 0), .ref 46, .ref 12] (f1, g, x_HR 12 39, dm, n) 0 0 := by
      refine x_wp_ok ok155 [52] 6 ?_
      refine And.intro (x_ix_nI (j := 0) (by decide) (by decide)) ?_
      refine Exists.intro _ (And.intro (c_copyL_12_48 (d := d)) (And.intro (And.intro (Nat.zero_le _) (Nat.zero_le _)) (fun q h' hpo => ?_)))
      obtain ⟨rfl, F1, G1, rfl, hcp⟩ := hpo
      have e0 : F1 0 = f1 0 := hcp.2.2.2.2.2.1 0 (by decide)
      have et : F1 58 = f1 58 := hcp.2.2.2.2.2.1 58 (by decide)
      have tail2 : x_J 155 (d + 2) Po 52 [some (.ref 0)] [.int (nI 0), .ref 47, .ref 39] (F1, G1, x_HR 12 39, dm, n) 0 0 := by
        refine x_wp_ok ok155 [] 6 ?_
        refine And.intro (x_ix_nI (j := 0) (by decide) (by decide)) ?_
        refine Exists.intro _ (And.intro (c_copyS_39_58 (d := d) (by rw [et, e58]; exact hb)) (And.intro (And.intro (Nat.zero_le _) (Nat.zero_le _)) (fun q h' hpo => ?_)))
        obtain ⟨rfl, F2, rfl, hcs⟩ := hpo
        have e2 : F2 0 14 = nI 0 := by rw [hcs.2.2 0 (by decide), e0, e14]
        refine Exists.intro _ (And.intro c_answer (And.intro (And.intro (Nat.zero_le _) (Nat.zero_le _)) (fun q h' hpo => ?_)))
        obtain ⟨rfl, rfl⟩ := hpo
        refine And.intro ?_ ⟨trivial, Nat.le_refl _, Nat.le_refl _⟩
        rw [hPo]
        show (if (1 : Nat) = 0 then _ else _)
        rw [if_neg (by decide)]
        exact ⟨congrArg (fun z => some (Value.int z)) e2, F1, G1, F2, hf1 ▸ hcp, hcs, rfl⟩
      rw [← e14, ← e0] at tail2
      exact tail2
    refine And.intro (fun _ => ?_) (fun c => absurd (show nI 0 < f 0 14 by rw [hm]; decide) c)
    rw [← e14, hf1, ← es] at tail
    exact tail
  · have hb := hb 1 (by decide)
    obtain ⟨f1, hf1⟩ : ∃ f1, f1 = x_up f 0 14 (nI 1) := ⟨_, rfl⟩
    have e14 : f1 0 14 = nI 1 := by rw [hf1]; exact x_up_s _ _ _ _
    have e58 : f1 75 = f 75 := by rw [hf1]; exact x_up_k (by decide)
    have es : f 0 14 - 1 = nI 1 := by rw [hm]; rfl
    have tail : x_J 155 (d + 2) Po 36 [some (.ref 0)] [.int (nI 1), .ref 46, .ref 12] (f1, g, x_HR 12 39, dm, n) 0 0 := by
      refine x_wp_ok ok155 [52] 6 ?_
      refine And.intro (x_ix_nI (j := 1) (by decide) (by decide)) ?_
      refine Exists.intro _ (And.intro (c_copyL_12_65 (d := d)) (And.intro (And.intro (Nat.zero_le _) (Nat.zero_le _)) (fun q h' hpo => ?_)))
      obtain ⟨rfl, F1, G1, rfl, hcp⟩ := hpo
      have e0 : F1 0 = f1 0 := hcp.2.2.2.2.2.1 0 (by decide)
      have et : F1 75 = f1 75 := hcp.2.2.2.2.2.1 75 (by decide)
      have tail2 : x_J 155 (d + 2) Po 52 [some (.ref 0)] [.int (nI 1), .ref 47, .ref 39] (F1, G1, x_HR 12 39, dm, n) 0 0 := by
        refine x_wp_ok ok155 [] 6 ?_
        refine And.intro (x_ix_nI (j := 1) (by decide) (by decide)) ?_
        refine Exists.intro _ (And.intro (c_copyS_39_75 (d := d) (by rw [et, e58]; exact hb)) (And.intro (And.intro (Nat.zero_le _) (Nat.zero_le _)) (fun q h' hpo => ?_)))
        obtain ⟨rfl, F2, rfl, hcs⟩ := hpo
        have e2 : F2 0 14 = nI 1 := by rw [hcs.2.2 0 (by decide), e0, e14]
        refine Exists.intro _ (And.intro c_answer (And.intro (And.intro (Nat.zero_le _) (Nat.zero_le _)) (fun q h' hpo => ?_)))
        obtain ⟨rfl, rfl⟩ := hpo
        refine And.intro ?_ ⟨trivial, Nat.le_refl _, Nat.le_refl _⟩
        rw [hPo]
        show (if (2 : Nat) = 0 then _ else _)
        rw [if_neg (by decide)]
        exact ⟨congrArg (fun z => some (Value.int z)) e2, F1, G1, F2, hf1 ▸ hcp, hcs, rfl⟩
      rw [← e14, ← e0] at tail2
      exact tail2
    refine And.intro (fun _ => ?_) (fun c => absurd (show nI 0 < f 0 14 by rw [hm]; decide) c)
    rw [← e14, hf1, ← es] at tail
    exact tail
  · have hb := hb 2 (by decide)
    obtain ⟨f1, hf1⟩ : ∃ f1, f1 = x_up f 0 14 (nI 2) := ⟨_, rfl⟩
    have e14 : f1 0 14 = nI 2 := by rw [hf1]; exact x_up_s _ _ _ _
    have e58 : f1 92 = f 92 := by rw [hf1]; exact x_up_k (by decide)
    have es : f 0 14 - 1 = nI 2 := by rw [hm]; rfl
    have tail : x_J 155 (d + 2) Po 36 [some (.ref 0)] [.int (nI 2), .ref 46, .ref 12] (f1, g, x_HR 12 39, dm, n) 0 0 := by
      refine x_wp_ok ok155 [52] 6 ?_
      refine And.intro (x_ix_nI (j := 2) (by decide) (by decide)) ?_
      refine Exists.intro _ (And.intro (c_copyL_12_82 (d := d)) (And.intro (And.intro (Nat.zero_le _) (Nat.zero_le _)) (fun q h' hpo => ?_)))
      obtain ⟨rfl, F1, G1, rfl, hcp⟩ := hpo
      have e0 : F1 0 = f1 0 := hcp.2.2.2.2.2.1 0 (by decide)
      have et : F1 92 = f1 92 := hcp.2.2.2.2.2.1 92 (by decide)
      have tail2 : x_J 155 (d + 2) Po 52 [some (.ref 0)] [.int (nI 2), .ref 47, .ref 39] (F1, G1, x_HR 12 39, dm, n) 0 0 := by
        refine x_wp_ok ok155 [] 6 ?_
        refine And.intro (x_ix_nI (j := 2) (by decide) (by decide)) ?_
        refine Exists.intro _ (And.intro (c_copyS_39_92 (d := d) (by rw [et, e58]; exact hb)) (And.intro (And.intro (Nat.zero_le _) (Nat.zero_le _)) (fun q h' hpo => ?_)))
        obtain ⟨rfl, F2, rfl, hcs⟩ := hpo
        have e2 : F2 0 14 = nI 2 := by rw [hcs.2.2 0 (by decide), e0, e14]
        refine Exists.intro _ (And.intro c_answer (And.intro (And.intro (Nat.zero_le _) (Nat.zero_le _)) (fun q h' hpo => ?_)))
        obtain ⟨rfl, rfl⟩ := hpo
        refine And.intro ?_ ⟨trivial, Nat.le_refl _, Nat.le_refl _⟩
        rw [hPo]
        show (if (3 : Nat) = 0 then _ else _)
        rw [if_neg (by decide)]
        exact ⟨congrArg (fun z => some (Value.int z)) e2, F1, G1, F2, hf1 ▸ hcp, hcs, rfl⟩
      rw [← e14, ← e0] at tail2
      exact tail2
    refine And.intro (fun _ => ?_) (fun c => absurd (show nI 0 < f 0 14 by rw [hm]; decide) c)
    rw [← e14, hf1, ← es] at tail
    exact tail
theorem c_mark_22_32 {μ : Nat} (hm : f 0 14 = nI μ) (hμ : μ ≤ 3) (hb : f 32 0 = 0 ∨ f 32 0 = 1) : x_Ct 154 (d + 2) [.ref 0] (f, g, x_HR 22 32, dm, n) (fun q h' => if μ = 3 then q = some (.int (-1)) ∧ h' = (x_up f 0 0 4, g, x_HR 22 32, dm, n) else q = some (.int (nI (μ + 1))) ∧ ∃ F1 G1 F2, x_CP f g (48 + 17 * μ) 22 F1 G1 ∧ x_CS F1 (58 + 17 * μ) 32 F2 ∧ h' = (x_up (x_up F2 0 14 (nI (μ + 1))) 0 0 0, G1, x_HR 22 32, dm, n)) := by
  have three : μ = 0 ∨ μ = 1 ∨ μ = 2 ∨ μ = 3 := by omega
  refine x_Ct_w (by decide) (Nat.le_of_ble_eq_true rfl) ok154 [22] 6 ?_
  rcases three with rfl | rfl | rfl | rfl
  · have tail : x_J 154 (d + 2) (fun q h' => if 0 = 3 then q = some (.int (-1)) ∧ h' = (x_up f 0 0 4, g, x_HR 22 32, dm, n) else q = some (.int (nI (0 + 1))) ∧ ∃ F1 G1 F2, x_CP f g (48 + 17 * 0) 22 F1 G1 ∧ x_CS F1 (58 + 17 * 0) 32 F2 ∧ h' = (x_up (x_up F2 0 14 (nI (0 + 1))) 0 0 0, G1, x_HR 22 32, dm, n)) 22 [some (.ref 0)] [.int (nI 0), .ref 46] (f, g, x_HR 22 32, dm, n) 0 0 := by
      refine x_wp_ok ok154 [38] 6 ?_
      refine And.intro (x_ix_nI (j := 0) (by decide) (by decide)) ?_
      refine Exists.intro _ (And.intro (c_copyL_48_22 (d := d)) (And.intro (And.intro (Nat.zero_le _) (Nat.zero_le _)) (fun q h' hpo => ?_)))
      obtain ⟨rfl, F1, G1, rfl, hcp⟩ := hpo
      have e0 : F1 0 = f 0 := hcp.2.2.2.2.2.1 0 (by decide)
      have et : F1 32 = f 32 := hcp.2.2.2.2.2.1 32 (by decide)
      have tail2 : x_J 154 (d + 2) (fun q h' => if 0 = 3 then q = some (.int (-1)) ∧ h' = (x_up f 0 0 4, g, x_HR 22 32, dm, n) else q = some (.int (nI (0 + 1))) ∧ ∃ F1 G1 F2, x_CP f g (48 + 17 * 0) 22 F1 G1 ∧ x_CS F1 (58 + 17 * 0) 32 F2 ∧ h' = (x_up (x_up F2 0 14 (nI (0 + 1))) 0 0 0, G1, x_HR 22 32, dm, n)) 38 [some (.ref 0)] [.int (nI 0), .ref 47] (F1, G1, x_HR 22 32, dm, n) 0 0 := by
        refine x_wp_ok ok154 [] 6 ?_
        refine And.intro (x_ix_nI (j := 0) (by decide) (by decide)) ?_
        refine Exists.intro _ (And.intro (c_copyS_58_32 (d := d) (by rw [et]; exact hb)) (And.intro (And.intro (Nat.zero_le _) (Nat.zero_le _)) (fun q h' hpo => ?_)))
        obtain ⟨rfl, F2, rfl, hcs⟩ := hpo
        have e2 : F2 0 14 + 1 = nI (0 + 1) := by rw [hcs.2.2 0 (by decide), e0, hm]; rfl
        refine Exists.intro _ (And.intro c_answer (And.intro (And.intro (Nat.zero_le _) (Nat.zero_le _)) (fun q h' hpo => ?_)))
        obtain ⟨rfl, rfl⟩ := hpo
        refine And.intro ?_ ⟨trivial, Nat.le_refl _, Nat.le_refl _⟩
        show (if (0 : Nat) = 3 then _ else _)
        rw [if_neg (by decide)]
        refine ⟨congrArg (fun z => some (Value.int z)) ((show x_up F2 0 14 (F2 0 14 + 1) 0 14 = F2 0 14 + 1 from x_up_s _ _ _ _).trans e2), F1, G1, F2, hcp, hcs, ?_⟩
        rw [← e2]
        rfl
      rw [← hm, ← e0] at tail2
      exact tail2
    refine And.intro (fun _ => ?_) (fun c => absurd (show f 0 14 < nI 3 by rw [hm]; decide) c)
    rw [← hm] at tail
    exact tail
  · have tail : x_J 154 (d + 2) (fun q h' => if 1 = 3 then q = some (.int (-1)) ∧ h' = (x_up f 0 0 4, g, x_HR 22 32, dm, n) else q = some (.int (nI (1 + 1))) ∧ ∃ F1 G1 F2, x_CP f g (48 + 17 * 1) 22 F1 G1 ∧ x_CS F1 (58 + 17 * 1) 32 F2 ∧ h' = (x_up (x_up F2 0 14 (nI (1 + 1))) 0 0 0, G1, x_HR 22 32, dm, n)) 22 [some (.ref 0)] [.int (nI 1), .ref 46] (f, g, x_HR 22 32, dm, n) 0 0 := by
      refine x_wp_ok ok154 [38] 6 ?_
      refine And.intro (x_ix_nI (j := 1) (by decide) (by decide)) ?_
      refine Exists.intro _ (And.intro (c_copyL_65_22 (d := d)) (And.intro (And.intro (Nat.zero_le _) (Nat.zero_le _)) (fun q h' hpo => ?_)))
      obtain ⟨rfl, F1, G1, rfl, hcp⟩ := hpo
      have e0 : F1 0 = f 0 := hcp.2.2.2.2.2.1 0 (by decide)
      have et : F1 32 = f 32 := hcp.2.2.2.2.2.1 32 (by decide)
      have tail2 : x_J 154 (d + 2) (fun q h' => if 1 = 3 then q = some (.int (-1)) ∧ h' = (x_up f 0 0 4, g, x_HR 22 32, dm, n) else q = some (.int (nI (1 + 1))) ∧ ∃ F1 G1 F2, x_CP f g (48 + 17 * 1) 22 F1 G1 ∧ x_CS F1 (58 + 17 * 1) 32 F2 ∧ h' = (x_up (x_up F2 0 14 (nI (1 + 1))) 0 0 0, G1, x_HR 22 32, dm, n)) 38 [some (.ref 0)] [.int (nI 1), .ref 47] (F1, G1, x_HR 22 32, dm, n) 0 0 := by
        refine x_wp_ok ok154 [] 6 ?_
        refine And.intro (x_ix_nI (j := 1) (by decide) (by decide)) ?_
        refine Exists.intro _ (And.intro (c_copyS_75_32 (d := d) (by rw [et]; exact hb)) (And.intro (And.intro (Nat.zero_le _) (Nat.zero_le _)) (fun q h' hpo => ?_)))
        obtain ⟨rfl, F2, rfl, hcs⟩ := hpo
        have e2 : F2 0 14 + 1 = nI (1 + 1) := by rw [hcs.2.2 0 (by decide), e0, hm]; rfl
        refine Exists.intro _ (And.intro c_answer (And.intro (And.intro (Nat.zero_le _) (Nat.zero_le _)) (fun q h' hpo => ?_)))
        obtain ⟨rfl, rfl⟩ := hpo
        refine And.intro ?_ ⟨trivial, Nat.le_refl _, Nat.le_refl _⟩
        show (if (1 : Nat) = 3 then _ else _)
        rw [if_neg (by decide)]
        refine ⟨congrArg (fun z => some (Value.int z)) ((show x_up F2 0 14 (F2 0 14 + 1) 0 14 = F2 0 14 + 1 from x_up_s _ _ _ _).trans e2), F1, G1, F2, hcp, hcs, ?_⟩
        rw [← e2]
        rfl
      rw [← hm, ← e0] at tail2
      exact tail2
    refine And.intro (fun _ => ?_) (fun c => absurd (show f 0 14 < nI 3 by rw [hm]; decide) c)
    rw [← hm] at tail
    exact tail
  · have tail : x_J 154 (d + 2) (fun q h' => if 2 = 3 then q = some (.int (-1)) ∧ h' = (x_up f 0 0 4, g, x_HR 22 32, dm, n) else q = some (.int (nI (2 + 1))) ∧ ∃ F1 G1 F2, x_CP f g (48 + 17 * 2) 22 F1 G1 ∧ x_CS F1 (58 + 17 * 2) 32 F2 ∧ h' = (x_up (x_up F2 0 14 (nI (2 + 1))) 0 0 0, G1, x_HR 22 32, dm, n)) 22 [some (.ref 0)] [.int (nI 2), .ref 46] (f, g, x_HR 22 32, dm, n) 0 0 := by
      refine x_wp_ok ok154 [38] 6 ?_
      refine And.intro (x_ix_nI (j := 2) (by decide) (by decide)) ?_
      refine Exists.intro _ (And.intro (c_copyL_82_22 (d := d)) (And.intro (And.intro (Nat.zero_le _) (Nat.zero_le _)) (fun q h' hpo => ?_)))
      obtain ⟨rfl, F1, G1, rfl, hcp⟩ := hpo
      have e0 : F1 0 = f 0 := hcp.2.2.2.2.2.1 0 (by decide)
      have et : F1 32 = f 32 := hcp.2.2.2.2.2.1 32 (by decide)
      have tail2 : x_J 154 (d + 2) (fun q h' => if 2 = 3 then q = some (.int (-1)) ∧ h' = (x_up f 0 0 4, g, x_HR 22 32, dm, n) else q = some (.int (nI (2 + 1))) ∧ ∃ F1 G1 F2, x_CP f g (48 + 17 * 2) 22 F1 G1 ∧ x_CS F1 (58 + 17 * 2) 32 F2 ∧ h' = (x_up (x_up F2 0 14 (nI (2 + 1))) 0 0 0, G1, x_HR 22 32, dm, n)) 38 [some (.ref 0)] [.int (nI 2), .ref 47] (F1, G1, x_HR 22 32, dm, n) 0 0 := by
        refine x_wp_ok ok154 [] 6 ?_
        refine And.intro (x_ix_nI (j := 2) (by decide) (by decide)) ?_
        refine Exists.intro _ (And.intro (c_copyS_92_32 (d := d) (by rw [et]; exact hb)) (And.intro (And.intro (Nat.zero_le _) (Nat.zero_le _)) (fun q h' hpo => ?_)))
        obtain ⟨rfl, F2, rfl, hcs⟩ := hpo
        have e2 : F2 0 14 + 1 = nI (2 + 1) := by rw [hcs.2.2 0 (by decide), e0, hm]; rfl
        refine Exists.intro _ (And.intro c_answer (And.intro (And.intro (Nat.zero_le _) (Nat.zero_le _)) (fun q h' hpo => ?_)))
        obtain ⟨rfl, rfl⟩ := hpo
        refine And.intro ?_ ⟨trivial, Nat.le_refl _, Nat.le_refl _⟩
        show (if (2 : Nat) = 3 then _ else _)
        rw [if_neg (by decide)]
        refine ⟨congrArg (fun z => some (Value.int z)) ((show x_up F2 0 14 (F2 0 14 + 1) 0 14 = F2 0 14 + 1 from x_up_s _ _ _ _).trans e2), F1, G1, F2, hcp, hcs, ?_⟩
        rw [← e2]
        rfl
      rw [← hm, ← e0] at tail2
      exact tail2
    refine And.intro (fun _ => ?_) (fun c => absurd (show f 0 14 < nI 3 by rw [hm]; decide) c)
    rw [← hm] at tail
    exact tail
  · refine And.intro (fun c => absurd (show f 0 14 < nI 3 from c) (by rw [hm]; decide)) (fun _ => ?_)
    refine Exists.intro _ (And.intro c_refuse (And.intro (And.intro (Nat.zero_le _) (Nat.zero_le _)) (fun q h' hpo => ?_)))
    obtain ⟨rfl, rfl⟩ := hpo
    refine And.intro ?_ ⟨trivial, Nat.le_refl _, Nat.le_refl _⟩
    show (if (3 : Nat) = 3 then _ else _)
    rw [if_pos rfl]
    exact ⟨rfl, rfl⟩
theorem c_undo_22_32 {μ : Nat} (hm : f 0 14 = nI μ) (hμ : μ ≤ 3) (hb : ∀ i, i < μ → f (58 + 17 * i) 0 = 0 ∨ f (58 + 17 * i) 0 = 1) : x_Ct 155 (d + 2) [.ref 0] (f, g, x_HR 22 32, dm, n) (fun q h' => if μ = 0 then q = some (.int (-1)) ∧ h' = (x_up f 0 0 6, g, x_HR 22 32, dm, n) else q = some (.int (nI (μ - 1))) ∧ ∃ F1 G1 F2, x_CP (x_up f 0 14 (nI (μ - 1))) g 22 (48 + 17 * (μ - 1)) F1 G1 ∧ x_CS F1 32 (58 + 17 * (μ - 1)) F2 ∧ h' = (x_up F2 0 0 0, G1, x_HR 22 32, dm, n)) := by
  have three : μ = 0 ∨ μ = 1 ∨ μ = 2 ∨ μ = 3 := by omega
  obtain ⟨Po, hPo⟩ : ∃ Po : Option Value → xH → Prop, Po = (fun q h' => if μ = 0 then q = some (.int (-1)) ∧ h' = (x_up f 0 0 6, g, x_HR 22 32, dm, n) else q = some (.int (nI (μ - 1))) ∧ ∃ F1 G1 F2, x_CP (x_up f 0 14 (nI (μ - 1))) g 22 (48 + 17 * (μ - 1)) F1 G1 ∧ x_CS F1 32 (58 + 17 * (μ - 1)) F2 ∧ h' = (x_up F2 0 0 0, G1, x_HR 22 32, dm, n)) := ⟨_, rfl⟩
  rw [← hPo]
  refine x_Ct_w (by decide) (Nat.le_of_ble_eq_true rfl) ok155 [36] 6 ?_
  rcases three with rfl | rfl | rfl | rfl
  · refine And.intro (fun c => absurd (show nI 0 < f 0 14 from c) (by rw [hm]; decide)) (fun _ => ?_)
    refine Exists.intro _ (And.intro c_refuse (And.intro (And.intro (Nat.zero_le _) (Nat.zero_le _)) (fun q h' hpo => ?_)))
    obtain ⟨rfl, rfl⟩ := hpo
    refine And.intro ?_ ⟨trivial, Nat.le_refl _, Nat.le_refl _⟩
    rw [hPo]
    show (if (0 : Nat) = 0 then _ else _)
    rw [if_pos rfl]
    exact ⟨rfl, rfl⟩
  · have hb := hb 0 (by decide)
    obtain ⟨f1, hf1⟩ : ∃ f1, f1 = x_up f 0 14 (nI 0) := ⟨_, rfl⟩
    have e14 : f1 0 14 = nI 0 := by rw [hf1]; exact x_up_s _ _ _ _
    have e58 : f1 58 = f 58 := by rw [hf1]; exact x_up_k (by decide)
    have es : f 0 14 - 1 = nI 0 := by rw [hm]; rfl
    have tail : x_J 155 (d + 2) Po 36 [some (.ref 0)] [.int (nI 0), .ref 46, .ref 22] (f1, g, x_HR 22 32, dm, n) 0 0 := by
      refine x_wp_ok ok155 [52] 6 ?_
      refine And.intro (x_ix_nI (j := 0) (by decide) (by decide)) ?_
      refine Exists.intro _ (And.intro (c_copyL_22_48 (d := d)) (And.intro (And.intro (Nat.zero_le _) (Nat.zero_le _)) (fun q h' hpo => ?_)))
      obtain ⟨rfl, F1, G1, rfl, hcp⟩ := hpo
      have e0 : F1 0 = f1 0 := hcp.2.2.2.2.2.1 0 (by decide)
      have et : F1 58 = f1 58 := hcp.2.2.2.2.2.1 58 (by decide)
      have tail2 : x_J 155 (d + 2) Po 52 [some (.ref 0)] [.int (nI 0), .ref 47, .ref 32] (F1, G1, x_HR 22 32, dm, n) 0 0 := by
        refine x_wp_ok ok155 [] 6 ?_
        refine And.intro (x_ix_nI (j := 0) (by decide) (by decide)) ?_
        refine Exists.intro _ (And.intro (c_copyS_32_58 (d := d) (by rw [et, e58]; exact hb)) (And.intro (And.intro (Nat.zero_le _) (Nat.zero_le _)) (fun q h' hpo => ?_)))
        obtain ⟨rfl, F2, rfl, hcs⟩ := hpo
        have e2 : F2 0 14 = nI 0 := by rw [hcs.2.2 0 (by decide), e0, e14]
        refine Exists.intro _ (And.intro c_answer (And.intro (And.intro (Nat.zero_le _) (Nat.zero_le _)) (fun q h' hpo => ?_)))
        obtain ⟨rfl, rfl⟩ := hpo
        refine And.intro ?_ ⟨trivial, Nat.le_refl _, Nat.le_refl _⟩
        rw [hPo]
        show (if (1 : Nat) = 0 then _ else _)
        rw [if_neg (by decide)]
        exact ⟨congrArg (fun z => some (Value.int z)) e2, F1, G1, F2, hf1 ▸ hcp, hcs, rfl⟩
      rw [← e14, ← e0] at tail2
      exact tail2
    refine And.intro (fun _ => ?_) (fun c => absurd (show nI 0 < f 0 14 by rw [hm]; decide) c)
    rw [← e14, hf1, ← es] at tail
    exact tail
  · have hb := hb 1 (by decide)
    obtain ⟨f1, hf1⟩ : ∃ f1, f1 = x_up f 0 14 (nI 1) := ⟨_, rfl⟩
    have e14 : f1 0 14 = nI 1 := by rw [hf1]; exact x_up_s _ _ _ _
    have e58 : f1 75 = f 75 := by rw [hf1]; exact x_up_k (by decide)
    have es : f 0 14 - 1 = nI 1 := by rw [hm]; rfl
    have tail : x_J 155 (d + 2) Po 36 [some (.ref 0)] [.int (nI 1), .ref 46, .ref 22] (f1, g, x_HR 22 32, dm, n) 0 0 := by
      refine x_wp_ok ok155 [52] 6 ?_
      refine And.intro (x_ix_nI (j := 1) (by decide) (by decide)) ?_
      refine Exists.intro _ (And.intro (c_copyL_22_65 (d := d)) (And.intro (And.intro (Nat.zero_le _) (Nat.zero_le _)) (fun q h' hpo => ?_)))
      obtain ⟨rfl, F1, G1, rfl, hcp⟩ := hpo
      have e0 : F1 0 = f1 0 := hcp.2.2.2.2.2.1 0 (by decide)
      have et : F1 75 = f1 75 := hcp.2.2.2.2.2.1 75 (by decide)
      have tail2 : x_J 155 (d + 2) Po 52 [some (.ref 0)] [.int (nI 1), .ref 47, .ref 32] (F1, G1, x_HR 22 32, dm, n) 0 0 := by
        refine x_wp_ok ok155 [] 6 ?_
        refine And.intro (x_ix_nI (j := 1) (by decide) (by decide)) ?_
        refine Exists.intro _ (And.intro (c_copyS_32_75 (d := d) (by rw [et, e58]; exact hb)) (And.intro (And.intro (Nat.zero_le _) (Nat.zero_le _)) (fun q h' hpo => ?_)))
        obtain ⟨rfl, F2, rfl, hcs⟩ := hpo
        have e2 : F2 0 14 = nI 1 := by rw [hcs.2.2 0 (by decide), e0, e14]
        refine Exists.intro _ (And.intro c_answer (And.intro (And.intro (Nat.zero_le _) (Nat.zero_le _)) (fun q h' hpo => ?_)))
        obtain ⟨rfl, rfl⟩ := hpo
        refine And.intro ?_ ⟨trivial, Nat.le_refl _, Nat.le_refl _⟩
        rw [hPo]
        show (if (2 : Nat) = 0 then _ else _)
        rw [if_neg (by decide)]
        exact ⟨congrArg (fun z => some (Value.int z)) e2, F1, G1, F2, hf1 ▸ hcp, hcs, rfl⟩
      rw [← e14, ← e0] at tail2
      exact tail2
    refine And.intro (fun _ => ?_) (fun c => absurd (show nI 0 < f 0 14 by rw [hm]; decide) c)
    rw [← e14, hf1, ← es] at tail
    exact tail
  · have hb := hb 2 (by decide)
    obtain ⟨f1, hf1⟩ : ∃ f1, f1 = x_up f 0 14 (nI 2) := ⟨_, rfl⟩
    have e14 : f1 0 14 = nI 2 := by rw [hf1]; exact x_up_s _ _ _ _
    have e58 : f1 92 = f 92 := by rw [hf1]; exact x_up_k (by decide)
    have es : f 0 14 - 1 = nI 2 := by rw [hm]; rfl
    have tail : x_J 155 (d + 2) Po 36 [some (.ref 0)] [.int (nI 2), .ref 46, .ref 22] (f1, g, x_HR 22 32, dm, n) 0 0 := by
      refine x_wp_ok ok155 [52] 6 ?_
      refine And.intro (x_ix_nI (j := 2) (by decide) (by decide)) ?_
      refine Exists.intro _ (And.intro (c_copyL_22_82 (d := d)) (And.intro (And.intro (Nat.zero_le _) (Nat.zero_le _)) (fun q h' hpo => ?_)))
      obtain ⟨rfl, F1, G1, rfl, hcp⟩ := hpo
      have e0 : F1 0 = f1 0 := hcp.2.2.2.2.2.1 0 (by decide)
      have et : F1 92 = f1 92 := hcp.2.2.2.2.2.1 92 (by decide)
      have tail2 : x_J 155 (d + 2) Po 52 [some (.ref 0)] [.int (nI 2), .ref 47, .ref 32] (F1, G1, x_HR 22 32, dm, n) 0 0 := by
        refine x_wp_ok ok155 [] 6 ?_
        refine And.intro (x_ix_nI (j := 2) (by decide) (by decide)) ?_
        refine Exists.intro _ (And.intro (c_copyS_32_92 (d := d) (by rw [et, e58]; exact hb)) (And.intro (And.intro (Nat.zero_le _) (Nat.zero_le _)) (fun q h' hpo => ?_)))
        obtain ⟨rfl, F2, rfl, hcs⟩ := hpo
        have e2 : F2 0 14 = nI 2 := by rw [hcs.2.2 0 (by decide), e0, e14]
        refine Exists.intro _ (And.intro c_answer (And.intro (And.intro (Nat.zero_le _) (Nat.zero_le _)) (fun q h' hpo => ?_)))
        obtain ⟨rfl, rfl⟩ := hpo
        refine And.intro ?_ ⟨trivial, Nat.le_refl _, Nat.le_refl _⟩
        rw [hPo]
        show (if (3 : Nat) = 0 then _ else _)
        rw [if_neg (by decide)]
        exact ⟨congrArg (fun z => some (Value.int z)) e2, F1, G1, F2, hf1 ▸ hcp, hcs, rfl⟩
      rw [← e14, ← e0] at tail2
      exact tail2
    refine And.intro (fun _ => ?_) (fun c => absurd (show nI 0 < f 0 14 by rw [hm]; decide) c)
    rw [← e14, hf1, ← es] at tail
    exact tail
theorem c_mark_22_39 {μ : Nat} (hm : f 0 14 = nI μ) (hμ : μ ≤ 3) (hb : f 39 0 = 0 ∨ f 39 0 = 1) : x_Ct 154 (d + 2) [.ref 0] (f, g, x_HR 22 39, dm, n) (fun q h' => if μ = 3 then q = some (.int (-1)) ∧ h' = (x_up f 0 0 4, g, x_HR 22 39, dm, n) else q = some (.int (nI (μ + 1))) ∧ ∃ F1 G1 F2, x_CP f g (48 + 17 * μ) 22 F1 G1 ∧ x_CS F1 (58 + 17 * μ) 39 F2 ∧ h' = (x_up (x_up F2 0 14 (nI (μ + 1))) 0 0 0, G1, x_HR 22 39, dm, n)) := by
  have three : μ = 0 ∨ μ = 1 ∨ μ = 2 ∨ μ = 3 := by omega
  refine x_Ct_w (by decide) (Nat.le_of_ble_eq_true rfl) ok154 [22] 6 ?_
  rcases three with rfl | rfl | rfl | rfl
  · have tail : x_J 154 (d + 2) (fun q h' => if 0 = 3 then q = some (.int (-1)) ∧ h' = (x_up f 0 0 4, g, x_HR 22 39, dm, n) else q = some (.int (nI (0 + 1))) ∧ ∃ F1 G1 F2, x_CP f g (48 + 17 * 0) 22 F1 G1 ∧ x_CS F1 (58 + 17 * 0) 39 F2 ∧ h' = (x_up (x_up F2 0 14 (nI (0 + 1))) 0 0 0, G1, x_HR 22 39, dm, n)) 22 [some (.ref 0)] [.int (nI 0), .ref 46] (f, g, x_HR 22 39, dm, n) 0 0 := by
      refine x_wp_ok ok154 [38] 6 ?_
      refine And.intro (x_ix_nI (j := 0) (by decide) (by decide)) ?_
      refine Exists.intro _ (And.intro (c_copyL_48_22 (d := d)) (And.intro (And.intro (Nat.zero_le _) (Nat.zero_le _)) (fun q h' hpo => ?_)))
      obtain ⟨rfl, F1, G1, rfl, hcp⟩ := hpo
      have e0 : F1 0 = f 0 := hcp.2.2.2.2.2.1 0 (by decide)
      have et : F1 39 = f 39 := hcp.2.2.2.2.2.1 39 (by decide)
      have tail2 : x_J 154 (d + 2) (fun q h' => if 0 = 3 then q = some (.int (-1)) ∧ h' = (x_up f 0 0 4, g, x_HR 22 39, dm, n) else q = some (.int (nI (0 + 1))) ∧ ∃ F1 G1 F2, x_CP f g (48 + 17 * 0) 22 F1 G1 ∧ x_CS F1 (58 + 17 * 0) 39 F2 ∧ h' = (x_up (x_up F2 0 14 (nI (0 + 1))) 0 0 0, G1, x_HR 22 39, dm, n)) 38 [some (.ref 0)] [.int (nI 0), .ref 47] (F1, G1, x_HR 22 39, dm, n) 0 0 := by
        refine x_wp_ok ok154 [] 6 ?_
        refine And.intro (x_ix_nI (j := 0) (by decide) (by decide)) ?_
        refine Exists.intro _ (And.intro (c_copyS_58_39 (d := d) (by rw [et]; exact hb)) (And.intro (And.intro (Nat.zero_le _) (Nat.zero_le _)) (fun q h' hpo => ?_)))
        obtain ⟨rfl, F2, rfl, hcs⟩ := hpo
        have e2 : F2 0 14 + 1 = nI (0 + 1) := by rw [hcs.2.2 0 (by decide), e0, hm]; rfl
        refine Exists.intro _ (And.intro c_answer (And.intro (And.intro (Nat.zero_le _) (Nat.zero_le _)) (fun q h' hpo => ?_)))
        obtain ⟨rfl, rfl⟩ := hpo
        refine And.intro ?_ ⟨trivial, Nat.le_refl _, Nat.le_refl _⟩
        show (if (0 : Nat) = 3 then _ else _)
        rw [if_neg (by decide)]
        refine ⟨congrArg (fun z => some (Value.int z)) ((show x_up F2 0 14 (F2 0 14 + 1) 0 14 = F2 0 14 + 1 from x_up_s _ _ _ _).trans e2), F1, G1, F2, hcp, hcs, ?_⟩
        rw [← e2]
        rfl
      rw [← hm, ← e0] at tail2
      exact tail2
    refine And.intro (fun _ => ?_) (fun c => absurd (show f 0 14 < nI 3 by rw [hm]; decide) c)
    rw [← hm] at tail
    exact tail
  · have tail : x_J 154 (d + 2) (fun q h' => if 1 = 3 then q = some (.int (-1)) ∧ h' = (x_up f 0 0 4, g, x_HR 22 39, dm, n) else q = some (.int (nI (1 + 1))) ∧ ∃ F1 G1 F2, x_CP f g (48 + 17 * 1) 22 F1 G1 ∧ x_CS F1 (58 + 17 * 1) 39 F2 ∧ h' = (x_up (x_up F2 0 14 (nI (1 + 1))) 0 0 0, G1, x_HR 22 39, dm, n)) 22 [some (.ref 0)] [.int (nI 1), .ref 46] (f, g, x_HR 22 39, dm, n) 0 0 := by
      refine x_wp_ok ok154 [38] 6 ?_
      refine And.intro (x_ix_nI (j := 1) (by decide) (by decide)) ?_
      refine Exists.intro _ (And.intro (c_copyL_65_22 (d := d)) (And.intro (And.intro (Nat.zero_le _) (Nat.zero_le _)) (fun q h' hpo => ?_)))
      obtain ⟨rfl, F1, G1, rfl, hcp⟩ := hpo
      have e0 : F1 0 = f 0 := hcp.2.2.2.2.2.1 0 (by decide)
      have et : F1 39 = f 39 := hcp.2.2.2.2.2.1 39 (by decide)
      have tail2 : x_J 154 (d + 2) (fun q h' => if 1 = 3 then q = some (.int (-1)) ∧ h' = (x_up f 0 0 4, g, x_HR 22 39, dm, n) else q = some (.int (nI (1 + 1))) ∧ ∃ F1 G1 F2, x_CP f g (48 + 17 * 1) 22 F1 G1 ∧ x_CS F1 (58 + 17 * 1) 39 F2 ∧ h' = (x_up (x_up F2 0 14 (nI (1 + 1))) 0 0 0, G1, x_HR 22 39, dm, n)) 38 [some (.ref 0)] [.int (nI 1), .ref 47] (F1, G1, x_HR 22 39, dm, n) 0 0 := by
        refine x_wp_ok ok154 [] 6 ?_
        refine And.intro (x_ix_nI (j := 1) (by decide) (by decide)) ?_
        refine Exists.intro _ (And.intro (c_copyS_75_39 (d := d) (by rw [et]; exact hb)) (And.intro (And.intro (Nat.zero_le _) (Nat.zero_le _)) (fun q h' hpo => ?_)))
        obtain ⟨rfl, F2, rfl, hcs⟩ := hpo
        have e2 : F2 0 14 + 1 = nI (1 + 1) := by rw [hcs.2.2 0 (by decide), e0, hm]; rfl
        refine Exists.intro _ (And.intro c_answer (And.intro (And.intro (Nat.zero_le _) (Nat.zero_le _)) (fun q h' hpo => ?_)))
        obtain ⟨rfl, rfl⟩ := hpo
        refine And.intro ?_ ⟨trivial, Nat.le_refl _, Nat.le_refl _⟩
        show (if (1 : Nat) = 3 then _ else _)
        rw [if_neg (by decide)]
        refine ⟨congrArg (fun z => some (Value.int z)) ((show x_up F2 0 14 (F2 0 14 + 1) 0 14 = F2 0 14 + 1 from x_up_s _ _ _ _).trans e2), F1, G1, F2, hcp, hcs, ?_⟩
        rw [← e2]
        rfl
      rw [← hm, ← e0] at tail2
      exact tail2
    refine And.intro (fun _ => ?_) (fun c => absurd (show f 0 14 < nI 3 by rw [hm]; decide) c)
    rw [← hm] at tail
    exact tail
  · have tail : x_J 154 (d + 2) (fun q h' => if 2 = 3 then q = some (.int (-1)) ∧ h' = (x_up f 0 0 4, g, x_HR 22 39, dm, n) else q = some (.int (nI (2 + 1))) ∧ ∃ F1 G1 F2, x_CP f g (48 + 17 * 2) 22 F1 G1 ∧ x_CS F1 (58 + 17 * 2) 39 F2 ∧ h' = (x_up (x_up F2 0 14 (nI (2 + 1))) 0 0 0, G1, x_HR 22 39, dm, n)) 22 [some (.ref 0)] [.int (nI 2), .ref 46] (f, g, x_HR 22 39, dm, n) 0 0 := by
      refine x_wp_ok ok154 [38] 6 ?_
      refine And.intro (x_ix_nI (j := 2) (by decide) (by decide)) ?_
      refine Exists.intro _ (And.intro (c_copyL_82_22 (d := d)) (And.intro (And.intro (Nat.zero_le _) (Nat.zero_le _)) (fun q h' hpo => ?_)))
      obtain ⟨rfl, F1, G1, rfl, hcp⟩ := hpo
      have e0 : F1 0 = f 0 := hcp.2.2.2.2.2.1 0 (by decide)
      have et : F1 39 = f 39 := hcp.2.2.2.2.2.1 39 (by decide)
      have tail2 : x_J 154 (d + 2) (fun q h' => if 2 = 3 then q = some (.int (-1)) ∧ h' = (x_up f 0 0 4, g, x_HR 22 39, dm, n) else q = some (.int (nI (2 + 1))) ∧ ∃ F1 G1 F2, x_CP f g (48 + 17 * 2) 22 F1 G1 ∧ x_CS F1 (58 + 17 * 2) 39 F2 ∧ h' = (x_up (x_up F2 0 14 (nI (2 + 1))) 0 0 0, G1, x_HR 22 39, dm, n)) 38 [some (.ref 0)] [.int (nI 2), .ref 47] (F1, G1, x_HR 22 39, dm, n) 0 0 := by
        refine x_wp_ok ok154 [] 6 ?_
        refine And.intro (x_ix_nI (j := 2) (by decide) (by decide)) ?_
        refine Exists.intro _ (And.intro (c_copyS_92_39 (d := d) (by rw [et]; exact hb)) (And.intro (And.intro (Nat.zero_le _) (Nat.zero_le _)) (fun q h' hpo => ?_)))
        obtain ⟨rfl, F2, rfl, hcs⟩ := hpo
        have e2 : F2 0 14 + 1 = nI (2 + 1) := by rw [hcs.2.2 0 (by decide), e0, hm]; rfl
        refine Exists.intro _ (And.intro c_answer (And.intro (And.intro (Nat.zero_le _) (Nat.zero_le _)) (fun q h' hpo => ?_)))
        obtain ⟨rfl, rfl⟩ := hpo
        refine And.intro ?_ ⟨trivial, Nat.le_refl _, Nat.le_refl _⟩
        show (if (2 : Nat) = 3 then _ else _)
        rw [if_neg (by decide)]
        refine ⟨congrArg (fun z => some (Value.int z)) ((show x_up F2 0 14 (F2 0 14 + 1) 0 14 = F2 0 14 + 1 from x_up_s _ _ _ _).trans e2), F1, G1, F2, hcp, hcs, ?_⟩
        rw [← e2]
        rfl
      rw [← hm, ← e0] at tail2
      exact tail2
    refine And.intro (fun _ => ?_) (fun c => absurd (show f 0 14 < nI 3 by rw [hm]; decide) c)
    rw [← hm] at tail
    exact tail
  · refine And.intro (fun c => absurd (show f 0 14 < nI 3 from c) (by rw [hm]; decide)) (fun _ => ?_)
    refine Exists.intro _ (And.intro c_refuse (And.intro (And.intro (Nat.zero_le _) (Nat.zero_le _)) (fun q h' hpo => ?_)))
    obtain ⟨rfl, rfl⟩ := hpo
    refine And.intro ?_ ⟨trivial, Nat.le_refl _, Nat.le_refl _⟩
    show (if (3 : Nat) = 3 then _ else _)
    rw [if_pos rfl]
    exact ⟨rfl, rfl⟩
theorem c_undo_22_39 {μ : Nat} (hm : f 0 14 = nI μ) (hμ : μ ≤ 3) (hb : ∀ i, i < μ → f (58 + 17 * i) 0 = 0 ∨ f (58 + 17 * i) 0 = 1) : x_Ct 155 (d + 2) [.ref 0] (f, g, x_HR 22 39, dm, n) (fun q h' => if μ = 0 then q = some (.int (-1)) ∧ h' = (x_up f 0 0 6, g, x_HR 22 39, dm, n) else q = some (.int (nI (μ - 1))) ∧ ∃ F1 G1 F2, x_CP (x_up f 0 14 (nI (μ - 1))) g 22 (48 + 17 * (μ - 1)) F1 G1 ∧ x_CS F1 39 (58 + 17 * (μ - 1)) F2 ∧ h' = (x_up F2 0 0 0, G1, x_HR 22 39, dm, n)) := by
  have three : μ = 0 ∨ μ = 1 ∨ μ = 2 ∨ μ = 3 := by omega
  obtain ⟨Po, hPo⟩ : ∃ Po : Option Value → xH → Prop, Po = (fun q h' => if μ = 0 then q = some (.int (-1)) ∧ h' = (x_up f 0 0 6, g, x_HR 22 39, dm, n) else q = some (.int (nI (μ - 1))) ∧ ∃ F1 G1 F2, x_CP (x_up f 0 14 (nI (μ - 1))) g 22 (48 + 17 * (μ - 1)) F1 G1 ∧ x_CS F1 39 (58 + 17 * (μ - 1)) F2 ∧ h' = (x_up F2 0 0 0, G1, x_HR 22 39, dm, n)) := ⟨_, rfl⟩
  rw [← hPo]
  refine x_Ct_w (by decide) (Nat.le_of_ble_eq_true rfl) ok155 [36] 6 ?_
  rcases three with rfl | rfl | rfl | rfl
  · refine And.intro (fun c => absurd (show nI 0 < f 0 14 from c) (by rw [hm]; decide)) (fun _ => ?_)
    refine Exists.intro _ (And.intro c_refuse (And.intro (And.intro (Nat.zero_le _) (Nat.zero_le _)) (fun q h' hpo => ?_)))
    obtain ⟨rfl, rfl⟩ := hpo
    refine And.intro ?_ ⟨trivial, Nat.le_refl _, Nat.le_refl _⟩
    rw [hPo]
    show (if (0 : Nat) = 0 then _ else _)
    rw [if_pos rfl]
    exact ⟨rfl, rfl⟩
  · have hb := hb 0 (by decide)
    obtain ⟨f1, hf1⟩ : ∃ f1, f1 = x_up f 0 14 (nI 0) := ⟨_, rfl⟩
    have e14 : f1 0 14 = nI 0 := by rw [hf1]; exact x_up_s _ _ _ _
    have e58 : f1 58 = f 58 := by rw [hf1]; exact x_up_k (by decide)
    have es : f 0 14 - 1 = nI 0 := by rw [hm]; rfl
    have tail : x_J 155 (d + 2) Po 36 [some (.ref 0)] [.int (nI 0), .ref 46, .ref 22] (f1, g, x_HR 22 39, dm, n) 0 0 := by
      refine x_wp_ok ok155 [52] 6 ?_
      refine And.intro (x_ix_nI (j := 0) (by decide) (by decide)) ?_
      refine Exists.intro _ (And.intro (c_copyL_22_48 (d := d)) (And.intro (And.intro (Nat.zero_le _) (Nat.zero_le _)) (fun q h' hpo => ?_)))
      obtain ⟨rfl, F1, G1, rfl, hcp⟩ := hpo
      have e0 : F1 0 = f1 0 := hcp.2.2.2.2.2.1 0 (by decide)
      have et : F1 58 = f1 58 := hcp.2.2.2.2.2.1 58 (by decide)
      have tail2 : x_J 155 (d + 2) Po 52 [some (.ref 0)] [.int (nI 0), .ref 47, .ref 39] (F1, G1, x_HR 22 39, dm, n) 0 0 := by
        refine x_wp_ok ok155 [] 6 ?_
        refine And.intro (x_ix_nI (j := 0) (by decide) (by decide)) ?_
        refine Exists.intro _ (And.intro (c_copyS_39_58 (d := d) (by rw [et, e58]; exact hb)) (And.intro (And.intro (Nat.zero_le _) (Nat.zero_le _)) (fun q h' hpo => ?_)))
        obtain ⟨rfl, F2, rfl, hcs⟩ := hpo
        have e2 : F2 0 14 = nI 0 := by rw [hcs.2.2 0 (by decide), e0, e14]
        refine Exists.intro _ (And.intro c_answer (And.intro (And.intro (Nat.zero_le _) (Nat.zero_le _)) (fun q h' hpo => ?_)))
        obtain ⟨rfl, rfl⟩ := hpo
        refine And.intro ?_ ⟨trivial, Nat.le_refl _, Nat.le_refl _⟩
        rw [hPo]
        show (if (1 : Nat) = 0 then _ else _)
        rw [if_neg (by decide)]
        exact ⟨congrArg (fun z => some (Value.int z)) e2, F1, G1, F2, hf1 ▸ hcp, hcs, rfl⟩
      rw [← e14, ← e0] at tail2
      exact tail2
    refine And.intro (fun _ => ?_) (fun c => absurd (show nI 0 < f 0 14 by rw [hm]; decide) c)
    rw [← e14, hf1, ← es] at tail
    exact tail
  · have hb := hb 1 (by decide)
    obtain ⟨f1, hf1⟩ : ∃ f1, f1 = x_up f 0 14 (nI 1) := ⟨_, rfl⟩
    have e14 : f1 0 14 = nI 1 := by rw [hf1]; exact x_up_s _ _ _ _
    have e58 : f1 75 = f 75 := by rw [hf1]; exact x_up_k (by decide)
    have es : f 0 14 - 1 = nI 1 := by rw [hm]; rfl
    have tail : x_J 155 (d + 2) Po 36 [some (.ref 0)] [.int (nI 1), .ref 46, .ref 22] (f1, g, x_HR 22 39, dm, n) 0 0 := by
      refine x_wp_ok ok155 [52] 6 ?_
      refine And.intro (x_ix_nI (j := 1) (by decide) (by decide)) ?_
      refine Exists.intro _ (And.intro (c_copyL_22_65 (d := d)) (And.intro (And.intro (Nat.zero_le _) (Nat.zero_le _)) (fun q h' hpo => ?_)))
      obtain ⟨rfl, F1, G1, rfl, hcp⟩ := hpo
      have e0 : F1 0 = f1 0 := hcp.2.2.2.2.2.1 0 (by decide)
      have et : F1 75 = f1 75 := hcp.2.2.2.2.2.1 75 (by decide)
      have tail2 : x_J 155 (d + 2) Po 52 [some (.ref 0)] [.int (nI 1), .ref 47, .ref 39] (F1, G1, x_HR 22 39, dm, n) 0 0 := by
        refine x_wp_ok ok155 [] 6 ?_
        refine And.intro (x_ix_nI (j := 1) (by decide) (by decide)) ?_
        refine Exists.intro _ (And.intro (c_copyS_39_75 (d := d) (by rw [et, e58]; exact hb)) (And.intro (And.intro (Nat.zero_le _) (Nat.zero_le _)) (fun q h' hpo => ?_)))
        obtain ⟨rfl, F2, rfl, hcs⟩ := hpo
        have e2 : F2 0 14 = nI 1 := by rw [hcs.2.2 0 (by decide), e0, e14]
        refine Exists.intro _ (And.intro c_answer (And.intro (And.intro (Nat.zero_le _) (Nat.zero_le _)) (fun q h' hpo => ?_)))
        obtain ⟨rfl, rfl⟩ := hpo
        refine And.intro ?_ ⟨trivial, Nat.le_refl _, Nat.le_refl _⟩
        rw [hPo]
        show (if (2 : Nat) = 0 then _ else _)
        rw [if_neg (by decide)]
        exact ⟨congrArg (fun z => some (Value.int z)) e2, F1, G1, F2, hf1 ▸ hcp, hcs, rfl⟩
      rw [← e14, ← e0] at tail2
      exact tail2
    refine And.intro (fun _ => ?_) (fun c => absurd (show nI 0 < f 0 14 by rw [hm]; decide) c)
    rw [← e14, hf1, ← es] at tail
    exact tail
  · have hb := hb 2 (by decide)
    obtain ⟨f1, hf1⟩ : ∃ f1, f1 = x_up f 0 14 (nI 2) := ⟨_, rfl⟩
    have e14 : f1 0 14 = nI 2 := by rw [hf1]; exact x_up_s _ _ _ _
    have e58 : f1 92 = f 92 := by rw [hf1]; exact x_up_k (by decide)
    have es : f 0 14 - 1 = nI 2 := by rw [hm]; rfl
    have tail : x_J 155 (d + 2) Po 36 [some (.ref 0)] [.int (nI 2), .ref 46, .ref 22] (f1, g, x_HR 22 39, dm, n) 0 0 := by
      refine x_wp_ok ok155 [52] 6 ?_
      refine And.intro (x_ix_nI (j := 2) (by decide) (by decide)) ?_
      refine Exists.intro _ (And.intro (c_copyL_22_82 (d := d)) (And.intro (And.intro (Nat.zero_le _) (Nat.zero_le _)) (fun q h' hpo => ?_)))
      obtain ⟨rfl, F1, G1, rfl, hcp⟩ := hpo
      have e0 : F1 0 = f1 0 := hcp.2.2.2.2.2.1 0 (by decide)
      have et : F1 92 = f1 92 := hcp.2.2.2.2.2.1 92 (by decide)
      have tail2 : x_J 155 (d + 2) Po 52 [some (.ref 0)] [.int (nI 2), .ref 47, .ref 39] (F1, G1, x_HR 22 39, dm, n) 0 0 := by
        refine x_wp_ok ok155 [] 6 ?_
        refine And.intro (x_ix_nI (j := 2) (by decide) (by decide)) ?_
        refine Exists.intro _ (And.intro (c_copyS_39_92 (d := d) (by rw [et, e58]; exact hb)) (And.intro (And.intro (Nat.zero_le _) (Nat.zero_le _)) (fun q h' hpo => ?_)))
        obtain ⟨rfl, F2, rfl, hcs⟩ := hpo
        have e2 : F2 0 14 = nI 2 := by rw [hcs.2.2 0 (by decide), e0, e14]
        refine Exists.intro _ (And.intro c_answer (And.intro (And.intro (Nat.zero_le _) (Nat.zero_le _)) (fun q h' hpo => ?_)))
        obtain ⟨rfl, rfl⟩ := hpo
        refine And.intro ?_ ⟨trivial, Nat.le_refl _, Nat.le_refl _⟩
        rw [hPo]
        show (if (3 : Nat) = 0 then _ else _)
        rw [if_neg (by decide)]
        exact ⟨congrArg (fun z => some (Value.int z)) e2, F1, G1, F2, hf1 ▸ hcp, hcs, rfl⟩
      rw [← e14, ← e0] at tail2
      exact tail2
    refine And.intro (fun _ => ?_) (fun c => absurd (show nI 0 < f 0 14 by rw [hm]; decide) c)
    rw [← e14, hf1, ← es] at tail
    exact tail
end C67
