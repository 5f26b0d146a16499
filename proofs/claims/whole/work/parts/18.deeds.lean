/-! sums over a view -/
def v_ws (v : xV) (c p : Nat) : Nat → Nat
  | 0 => 0
  | k + 1 => v_ws v c p k + v c p k * v 9 k 0
def v_os (v : xV) : Nat → Nat
  | 0 => v 8 0 0
  | p + 1 => v_os v p + (v_ws v 13 p (v 0 0 0) + v_ws v 14 p (v 0 0 0))
def v_out (v : xV) : Nat := v_os v (v 2 0 0)
theorem v_ws_le {v : xV} (h : v_B v) {c p : Nat} (hc : c = 13 ∨ c = 14) (hp : p < v 2 0 0) : ∀ k, k ≤ v 0 0 0 → v_ws v c p k ≤ k * 4999500
  | 0, _ => by simp [v_ws]
  | k + 1, hk => by
    have h1 := v_ws_le h hc hp k (by omega)
    have h2 : v c p k ≤ 9999 := by
      rcases hc with rfl | rfl
      · exact (h.1 13 p k (show p < v 2 0 0 ∧ k < v 0 0 0 from ⟨hp, by omega⟩)).2
      · exact (h.1 14 p k (show p < v 2 0 0 ∧ k < v 0 0 0 from ⟨hp, by omega⟩)).2
    have h3 : v 9 k 0 ≤ 500 := (h.1 9 k 0 (show k < v 0 0 0 ∧ 0 = 0 from ⟨by omega, rfl⟩)).2
    have h4 : v c p k * v 9 k 0 ≤ 9999 * 500 := Nat.mul_le_mul h2 h3
    show v_ws v c p k + v c p k * v 9 k 0 ≤ (k + 1) * 4999500
    omega
theorem v_os_le {v : xV} (h : v_B v) : ∀ p, p ≤ v 2 0 0 → v_os v p ≤ 9989001 + p * 39996000
  | 0, _ => by have := (h.1 8 0 0 ⟨rfl, rfl⟩).2; simp only [v_os]; exact Nat.le_trans this (by decide)
  | p + 1, hp => by
    have h1 := v_os_le h p (by omega)
    have hK := v_B_K h
    have h2 := v_ws_le h (Or.inl rfl) (show p < v 2 0 0 by omega) (v 0 0 0) (Nat.le_refl _)
    have h3 := v_ws_le h (Or.inr rfl) (show p < v 2 0 0 by omega) (v 0 0 0) (Nat.le_refl _)
    show v_os v p + (v_ws v 13 p (v 0 0 0) + v_ws v 14 p (v 0 0 0)) ≤ _
    omega
theorem v_out_le {v : xV} (h : v_B v) : v_out v ≤ 209969001 := by
  have h1 := v_os_le h (v 2 0 0) (Nat.le_refl _)
  have h2 := v_B_P h
  unfold v_out
  omega
theorem v_C_ws {f : Nat → Nat → Int32} {g : Nat → Nat → Int64} {L : Nat} {v : xV} (h : v_C f g L v) {c p : Nat} (hc : c = 13 ∨ c = 14) (hp : p < v 2 0 0) : ∀ k, k ≤ v 0 0 0 → x_wsum (f (L + (c - 6))) (f (L + 3)) (4 * p) k = nI (v_ws v c p k)
  | 0, _ => rfl
  | k + 1, hk => by
    have h1 := v_C_ws h hc hp k (by omega)
    have h3 : f (L + 3) k = nI (v 9 k 0) := h.1 9 k 0 (show k < v 0 0 0 ∧ 0 = 0 from ⟨by omega, rfl⟩)
    have h2 : f (L + (c - 6)) (4 * p + k) = nI (v c p k) := by
      rcases hc with rfl | rfl
      · exact h.1 13 p k (show p < v 2 0 0 ∧ k < v 0 0 0 from ⟨hp, by omega⟩)
      · exact h.1 14 p k (show p < v 2 0 0 ∧ k < v 0 0 0 from ⟨hp, by omega⟩)
    show x_wsum _ _ _ k + _ * _ = nI (v_ws v c p k + v c p k * v 9 k 0)
    rw [h1, h2, h3, pk_mul, nI_add]
/-- what a deed on the land at L leaves: its answer, its view; nothing else is changed but the table of sums -/
def x_PL (f : Nat → Nat → Int32) (g : Nat → Nat → Int64) (L : Nat) (ρ : Nat → Nat → Option Nat) (dm : List Nat) (n : Nat) (w : Value) (v' : xV) : Option Value → xH → Prop := fun q h' =>
  ∃ f' g', h' = (f', g', ρ, dm, n) ∧ q = some w ∧ v_C f' g' L v' ∧ g' (L + 2) = g (L + 2) ∧ ∀ k, k < L ∨ L + 9 < k → k ≠ 100 → f' k = f k ∧ g' k = g k
section C18
variable {f : Nat → Nat → Int32} {g : Nat → Nat → Int64} {r t : Nat} {dm : List Nat} {n d : Nat} {v : xV}
theorem c_outNow_12 (hC : v_C f g 12 v) (hB : v_B v) : x_V 13 (d + 2) [.ref 12] (f, g, x_HR r t, dm, n) (.int (nI (v_out v))) (f, g, x_HR r t, dm, n) := by
  have hK : f 12 0 = nI (v 0 0 0) := hC.1 0 0 0 ⟨rfl, rfl⟩
  have hP : f 12 2 = nI (v 2 0 0) := hC.1 2 0 0 ⟨rfl, rfl⟩
  have h8 : f 12 5 = nI (v 8 0 0) := hC.1 8 0 0 ⟨rfl, rfl⟩
  have bP := v_B_P hB
  have loop : ∀ m p, p + m = v 2 0 0 → x_J 13 (d + 2) (fun q h' => q = some (.int (nI (v_out v))) ∧ h' = (f, g, x_HR r t, dm, n)) 7 [some (.ref 12), some (.int (nI (v_os v p))), some (.int (nI p))] [] (f, g, x_HR r t, dm, n) 0 0 := by
    intro m
    induction m with
    | zero =>
      intro p hp
      refine x_wp_ok ok13 [7] 3 ?_
      refine And.intro (fun c => ?_) (fun c => ?_)
      · rw [Nat.add_zero] at hp
        subst hp
        exact And.intro ⟨rfl, rfl⟩ ⟨trivial, Nat.le_refl _, Nat.le_refl _⟩
      · have c : ¬ f 12 2 ≤ nI p := c
        rw [hP] at c
        exact absurd (nI_le (by omega) (by omega)) c
    | succ m ih =>
      intro p hp
      refine x_wp_ok ok13 [7] 3 ?_
      refine And.intro (fun c => ?_) (fun c => ?_)
      · have c : f 12 2 ≤ nI p := c
        rw [hP] at c
        exact absurd c (nI_ge (by omega) (by omega))
      · refine Exists.intro _ (And.intro (c_worthOf_12_19 hK (v_B_K hB) (by omega)) (And.intro (And.intro (Nat.zero_le _) (Nat.zero_le _)) (fun q h' hp => ?_)))
        obtain ⟨rfl, rfl⟩ := hp
        refine Exists.intro _ (And.intro (c_worthOf_12_20 hK (v_B_K hB) (by omega)) (And.intro (And.intro (Nat.zero_le _) (Nat.zero_le _)) (fun q h' hp => ?_)))
        obtain ⟨rfl, rfl⟩ := hp
        have e := ih (p + 1) (by omega)
        rw [nI_succ p, show v_os v (p + 1) = v_os v p + (v_ws v 13 p (v 0 0 0) + v_ws v 14 p (v 0 0 0)) from rfl, ← nI_add, ← nI_add, ← v_C_ws hC (Or.inl rfl) (by omega) _ (Nat.le_refl _), ← v_C_ws hC (Or.inr rfl) (by omega) _ (Nat.le_refl _)] at e
        exact e
  have e := loop (v 2 0 0) 0 (Nat.zero_add _)
  rw [show v_os v 0 = v 8 0 0 from rfl, ← h8] at e
  exact x_Ct_w (by decide) (Nat.le_of_ble_eq_true rfl) ok13 [7] 3 e
theorem c_tearUp_12 {p k m : Nat} (hC : v_C f g 12 v) (hB : v_B v) (hp : p < v 2 0 0) (hk : k < v 0 0 0) (hm : m ≤ 999) : x_Ct 24 (d + 1) [.ref 12, .int (nI p), .int (nI k), .int (nI m)] (f, g, x_HR r t, dm, n) (if v 13 p k < m ∨ 9999 < v 14 p k + m then (fun q h' => q = some (.int (-1)) ∧ h' = (f, g, x_HR r t, dm, n)) else x_PL f g 12 (x_HR r t) dm n (.int (nI (v 14 p k + m))) (v_set (v_set v 13 p k (v 13 p k - m)) 14 p k (v 14 p k + m))) := by
  have bK := v_B_K hB
  have bP := v_B_P hB
  have bG := v_B_G hB
  have o13 : v_ok v 13 p k := show p < v 2 0 0 ∧ k < v 0 0 0 from ⟨hp, hk⟩
  have o14 : v_ok v 14 p k := show p < v 2 0 0 ∧ k < v 0 0 0 from ⟨hp, hk⟩
  have h13 : f 19 (4 * p + k) = nI (v 13 p k) := hC.1 13 p k o13
  have h14 : f 20 (4 * p + k) = nI (v 14 p k) := hC.1 14 p k o14
  have b13 : v 13 p k ≤ 9999 := (hB.1 13 p k o13).2
  have b14 : v 14 p k ≤ 9999 := (hB.1 14 p k o14).2
  refine x_Ct_w (by decide) (Nat.le_of_ble_eq_true rfl) ok24 [] 6 ?_
  refine Exists.intro _ (And.intro c_purse (And.intro (And.intro (Nat.zero_le _) (Nat.zero_le _)) (fun q h' hp => ?_)))
  obtain ⟨rfl, rfl⟩ := hp
  rw [x_pl4]
  refine And.intro (x_ix_nI (by omega) (by omega)) ?_
  rw [nI_clamp (by omega)]
  refine And.intro (fun c => ?_) (fun c => ?_)
  · have c : f 19 (4 * p + k) < nI m := c
    rw [h13, nI_ltI (by omega) (by omega)] at c
    rw [if_pos (Or.inl c)]
    exact And.intro ⟨rfl, rfl⟩ ⟨trivial, Nat.le_refl _, Nat.le_refl _⟩
  · have c : ¬ f 19 (4 * p + k) < nI m := c
    rw [h13, nI_ltI (by omega) (by omega)] at c
    refine And.intro (x_ix_nI (by omega) (by omega)) ?_
    rw [nI_clamp (by omega)]
    refine And.intro (fun c2 => ?_) (fun c2 => ?_)
    · have c2 : f 20 (4 * p + k) + nI m ≤ nI 9999 := c2
      rw [h14, nI_add, nI_leI (by omega) (by omega)] at c2
      rw [if_neg (by omega)]
      refine And.intro (x_ix_nI (by omega) (by omega)) ?_
      rw [nI_clamp (by omega)]
      refine And.intro (x_ix_nI (by omega) (by omega)) ?_
      rw [nI_clamp (by omega)]
      refine And.intro (x_ix_nI (by omega) (by omega)) ?_
      rw [nI_clamp (by omega)]
      refine And.intro (x_ix_nI (by omega) (by omega)) ?_
      rw [nI_clamp (by omega)]
      refine And.intro (x_ix_nI (by omega) (by omega)) ?_
      rw [nI_clamp (by omega)]
      refine And.intro ?_ ⟨trivial, Nat.le_refl _, Nat.le_refl _⟩
      refine ⟨_, _, rfl, ?_, ?_, rfl, fun k2 hk2 _ => ⟨?_, rfl⟩⟩
      · show some (Value.int (x_up (x_up f 19 (4 * p + k) (f 19 (4 * p + k) - nI m)) 20 (4 * p + k) (f 20 (4 * p + k) + nI m) 20 (4 * p + k))) = _
        rw [x_up_s, h14, nI_add]
      · have e := v_C_set (v_C_set hC bK bG o13 (x := v 13 p k - m) (by decide)) bK bG (c := 14) (i := p) (j := k) (x := v 14 p k + m) ((v_ok_set (by decide)).mpr o14) (by decide)
        rw [← pk_sub (by omega), ← nI_add, ← h13, ← h14] at e
        exact e
      · show x_up (x_up f 19 _ _) 20 _ _ k2 = f k2
        rw [x_up_k (by omega), x_up_k (by omega)]
    · have c2 : ¬ f 20 (4 * p + k) + nI m ≤ nI 9999 := c2
      rw [h14, nI_add, nI_leI (by omega) (by omega)] at c2
      rw [if_pos (by omega)]
      exact And.intro ⟨rfl, rfl⟩ ⟨trivial, Nat.le_refl _, Nat.le_refl _⟩
theorem c_outNow_22 (hC : v_C f g 22 v) (hB : v_B v) : x_V 13 (d + 2) [.ref 22] (f, g, x_HR r t, dm, n) (.int (nI (v_out v))) (f, g, x_HR r t, dm, n) := by
  have hK : f 22 0 = nI (v 0 0 0) := hC.1 0 0 0 ⟨rfl, rfl⟩
  have hP : f 22 2 = nI (v 2 0 0) := hC.1 2 0 0 ⟨rfl, rfl⟩
  have h8 : f 22 5 = nI (v 8 0 0) := hC.1 8 0 0 ⟨rfl, rfl⟩
  have bP := v_B_P hB
  have loop : ∀ m p, p + m = v 2 0 0 → x_J 13 (d + 2) (fun q h' => q = some (.int (nI (v_out v))) ∧ h' = (f, g, x_HR r t, dm, n)) 7 [some (.ref 22), some (.int (nI (v_os v p))), some (.int (nI p))] [] (f, g, x_HR r t, dm, n) 0 0 := by
    intro m
    induction m with
    | zero =>
      intro p hp
      refine x_wp_ok ok13 [7] 3 ?_
      refine And.intro (fun c => ?_) (fun c => ?_)
      · rw [Nat.add_zero] at hp
        subst hp
        exact And.intro ⟨rfl, rfl⟩ ⟨trivial, Nat.le_refl _, Nat.le_refl _⟩
      · have c : ¬ f 22 2 ≤ nI p := c
        rw [hP] at c
        exact absurd (nI_le (by omega) (by omega)) c
    | succ m ih =>
      intro p hp
      refine x_wp_ok ok13 [7] 3 ?_
      refine And.intro (fun c => ?_) (fun c => ?_)
      · have c : f 22 2 ≤ nI p := c
        rw [hP] at c
        exact absurd c (nI_ge (by omega) (by omega))
      · refine Exists.intro _ (And.intro (c_worthOf_22_29 hK (v_B_K hB) (by omega)) (And.intro (And.intro (Nat.zero_le _) (Nat.zero_le _)) (fun q h' hp => ?_)))
        obtain ⟨rfl, rfl⟩ := hp
        refine Exists.intro _ (And.intro (c_worthOf_22_30 hK (v_B_K hB) (by omega)) (And.intro (And.intro (Nat.zero_le _) (Nat.zero_le _)) (fun q h' hp => ?_)))
        obtain ⟨rfl, rfl⟩ := hp
        have e := ih (p + 1) (by omega)
        rw [nI_succ p, show v_os v (p + 1) = v_os v p + (v_ws v 13 p (v 0 0 0) + v_ws v 14 p (v 0 0 0)) from rfl, ← nI_add, ← nI_add, ← v_C_ws hC (Or.inl rfl) (by omega) _ (Nat.le_refl _), ← v_C_ws hC (Or.inr rfl) (by omega) _ (Nat.le_refl _)] at e
        exact e
  have e := loop (v 2 0 0) 0 (Nat.zero_add _)
  rw [show v_os v 0 = v 8 0 0 from rfl, ← h8] at e
  exact x_Ct_w (by decide) (Nat.le_of_ble_eq_true rfl) ok13 [7] 3 e
theorem c_tearUp_22 {p k m : Nat} (hC : v_C f g 22 v) (hB : v_B v) (hp : p < v 2 0 0) (hk : k < v 0 0 0) (hm : m ≤ 999) : x_Ct 24 (d + 1) [.ref 22, .int (nI p), .int (nI k), .int (nI m)] (f, g, x_HR r t, dm, n) (if v 13 p k < m ∨ 9999 < v 14 p k + m then (fun q h' => q = some (.int (-1)) ∧ h' = (f, g, x_HR r t, dm, n)) else x_PL f g 22 (x_HR r t) dm n (.int (nI (v 14 p k + m))) (v_set (v_set v 13 p k (v 13 p k - m)) 14 p k (v 14 p k + m))) := by
  have bK := v_B_K hB
  have bP := v_B_P hB
  have bG := v_B_G hB
  have o13 : v_ok v 13 p k := show p < v 2 0 0 ∧ k < v 0 0 0 from ⟨hp, hk⟩
  have o14 : v_ok v 14 p k := show p < v 2 0 0 ∧ k < v 0 0 0 from ⟨hp, hk⟩
  have h13 : f 29 (4 * p + k) = nI (v 13 p k) := hC.1 13 p k o13
  have h14 : f 30 (4 * p + k) = nI (v 14 p k) := hC.1 14 p k o14
  have b13 : v 13 p k ≤ 9999 := (hB.1 13 p k o13).2
  have b14 : v 14 p k ≤ 9999 := (hB.1 14 p k o14).2
  refine x_Ct_w (by decide) (Nat.le_of_ble_eq_true rfl) ok24 [] 6 ?_
  refine Exists.intro _ (And.intro c_purse (And.intro (And.intro (Nat.zero_le _) (Nat.zero_le _)) (fun q h' hp => ?_)))
  obtain ⟨rfl, rfl⟩ := hp
  rw [x_pl4]
  refine And.intro (x_ix_nI (by omega) (by omega)) ?_
  rw [nI_clamp (by omega)]
  refine And.intro (fun c => ?_) (fun c => ?_)
  · have c : f 29 (4 * p + k) < nI m := c
    rw [h13, nI_ltI (by omega) (by omega)] at c
    rw [if_pos (Or.inl c)]
    exact And.intro ⟨rfl, rfl⟩ ⟨trivial, Nat.le_refl _, Nat.le_refl _⟩
  · have c : ¬ f 29 (4 * p + k) < nI m := c
    rw [h13, nI_ltI (by omega) (by omega)] at c
    refine And.intro (x_ix_nI (by omega) (by omega)) ?_
    rw [nI_clamp (by omega)]
    refine And.intro (fun c2 => ?_) (fun c2 => ?_)
    · have c2 : f 30 (4 * p + k) + nI m ≤ nI 9999 := c2
      rw [h14, nI_add, nI_leI (by omega) (by omega)] at c2
      rw [if_neg (by omega)]
      refine And.intro (x_ix_nI (by omega) (by omega)) ?_
      rw [nI_clamp (by omega)]
      refine And.intro (x_ix_nI (by omega) (by omega)) ?_
      rw [nI_clamp (by omega)]
      refine And.intro (x_ix_nI (by omega) (by omega)) ?_
      rw [nI_clamp (by omega)]
      refine And.intro (x_ix_nI (by omega) (by omega)) ?_
      rw [nI_clamp (by omega)]
      refine And.intro (x_ix_nI (by omega) (by omega)) ?_
      rw [nI_clamp (by omega)]
      refine And.intro ?_ ⟨trivial, Nat.le_refl _, Nat.le_refl _⟩
      refine ⟨_, _, rfl, ?_, ?_, rfl, fun k2 hk2 _ => ⟨?_, rfl⟩⟩
      · show some (Value.int (x_up (x_up f 29 (4 * p + k) (f 29 (4 * p + k) - nI m)) 30 (4 * p + k) (f 30 (4 * p + k) + nI m) 30 (4 * p + k))) = _
        rw [x_up_s, h14, nI_add]
      · have e := v_C_set (v_C_set hC bK bG o13 (x := v 13 p k - m) (by decide)) bK bG (c := 14) (i := p) (j := k) (x := v 14 p k + m) ((v_ok_set (by decide)).mpr o14) (by decide)
        rw [← pk_sub (by omega), ← nI_add, ← h13, ← h14] at e
        exact e
      · show x_up (x_up f 29 _ _) 30 _ _ k2 = f k2
        rw [x_up_k (by omega), x_up_k (by omega)]
    · have c2 : ¬ f 30 (4 * p + k) + nI m ≤ nI 9999 := c2
      rw [h14, nI_add, nI_leI (by omega) (by omega)] at c2
      rw [if_pos (by omega)]
      exact And.intro ⟨rfl, rfl⟩ ⟨trivial, Nat.le_refl _, Nat.le_refl _⟩
end C18
