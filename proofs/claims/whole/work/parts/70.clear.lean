/-! an empty land, an empty story -/
def x_CL0 (f : Nat → Nat → Int32) (g : Nat → Nat → Int64) (L : Nat) (F : Nat → Nat → Int32) (G : Nat → Nat → Int64) : Prop := (F L 0 = 0 ∧ F L 1 = 0 ∧ F L 2 = 0 ∧ F L 3 = 0 ∧ F L 4 = 1 ∧ F L 5 = 0) ∧ (F (L + 1) 0 = 500 ∧ F (L + 1) 1 = 3 ∧ F (L + 1) 2 = 0) ∧ (G L 6 = 0 ∧ G L 7 = 0) ∧ (∀ j, j < 20 → F (L + 7) j = 0 ∧ F (L + 8) j = 0) ∧ (∀ j, j < 25 → F (L + 9) j = 0) ∧ (∀ c, c ≠ L → c ≠ L + 1 → c ≠ L + 7 → c ≠ L + 8 → c ≠ L + 9 → F c = f c) ∧ ∀ c, c ≠ L → G c = g c
section C70
variable {f : Nat → Nat → Int32} {g : Nat → Nat → Int64} {r t : Nat} {dm : List Nat} {n d N : Nat} {v : xV}
theorem c_clear_12 : x_Ct 1 d [.ref 12] (f, g, x_HR r t, dm, n) (fun q h' => q = none ∧ ∃ F G, h' = (F, G, x_HR r t, dm, n) ∧ x_CL0 f g 12 F G) := by
  obtain ⟨Po, hPo⟩ : ∃ Po : Option Value → xH → Prop, Po = (fun q h' => q = none ∧ ∃ F G, h' = (F, G, x_HR r t, dm, n) ∧ x_CL0 f g 12 F G) := ⟨_, rfl⟩
  rw [← hPo]
  have loop2 : ∀ m k F G, k + m = 25 → (F 12 0 = 0 ∧ F 12 1 = 0 ∧ F 12 2 = 0 ∧ F 12 3 = 0 ∧ F 12 4 = 1 ∧ F 12 5 = 0) → (F 13 0 = 500 ∧ F 13 1 = 3 ∧ F 13 2 = 0) → (G 12 6 = 0 ∧ G 12 7 = 0) → (∀ j, j < 20 → F 19 j = 0 ∧ F 20 j = 0) → (∀ j, j < k → F 21 j = 0) → (∀ c, c ≠ 12 → c ≠ 13 → c ≠ 19 → c ≠ 20 → c ≠ 21 → F c = f c) → (∀ c, c ≠ 12 → G c = g c) → x_J 1 d Po 96 [some (.ref 12), some (.int (nI k))] [] (F, G, x_HR r t, dm, n) 0 0 := by
    intro m
    induction m with
    | zero =>
      intro k F G hk h1 h2 h3 h4 h5 h6 h7
      obtain rfl : k = 25 := by omega
      refine x_wp_ok ok1 [65, 96] 6 ?_
      refine And.intro (fun _ => ?_) (fun c => absurd (by decide) c)
      refine And.intro ?_ ⟨trivial, Nat.le_refl _, Nat.le_refl _⟩
      rw [hPo]
      exact ⟨rfl, F, G, rfl, h1, h2, h3, h4, h5, h6, h7⟩
    | succ m ih =>
      intro k F G hk h1 h2 h3 h4 h5 h6 h7
      refine x_wp_ok ok1 [65, 96] 6 ?_
      refine And.intro (fun c => absurd (show nI 25 ≤ nI k from c) (nI_ge (by omega) (by decide))) (fun _ => ?_)
      refine And.intro (x_ix_nI (by omega) (by omega)) ?_
      rw [nI_clamp (by omega)]
      have e := ih (k + 1) (x_up F 21 k 0) G (by omega) h1 h2 h3 h4 (fun j hj => by
        by_cases q : j = k
        · rw [q, x_up_s]
        · rw [x_up_j q]
          exact h5 j (by omega)) (fun c q1 q2 q3 q4 q5 => (x_up_k q5).trans (h6 c q1 q2 q3 q4 q5)) h7
      rw [← nI_1o] at e
      exact e
  have loop1 : ∀ m k F G, k + m = 20 → (F 12 0 = 0 ∧ F 12 1 = 0 ∧ F 12 2 = 0 ∧ F 12 3 = 0 ∧ F 12 4 = 1 ∧ F 12 5 = 0) → (F 13 0 = 500 ∧ F 13 1 = 3 ∧ F 13 2 = 0) → (G 12 6 = 0 ∧ G 12 7 = 0) → (∀ j, j < k → F 19 j = 0 ∧ F 20 j = 0) → (∀ c, c ≠ 12 → c ≠ 13 → c ≠ 19 → c ≠ 20 → c ≠ 21 → F c = f c) → (∀ c, c ≠ 12 → G c = g c) → x_J 1 d Po 65 [some (.ref 12), some (.int (nI k))] [] (F, G, x_HR r t, dm, n) 0 0 := by
    intro m
    induction m with
    | zero =>
      intro k F G hk h1 h2 h3 h4 h6 h7
      obtain rfl : k = 20 := by omega
      refine x_wp_ok ok1 [65, 96] 6 ?_
      refine And.intro (fun _ => ?_) (fun c => absurd (by decide) c)
      exact loop2 25 0 F G (by decide) h1 h2 h3 h4 (fun j q => absurd q (Nat.not_lt_zero _)) h6 h7
    | succ m ih =>
      intro k F G hk h1 h2 h3 h4 h6 h7
      refine x_wp_ok ok1 [65, 96] 6 ?_
      refine And.intro (fun c => absurd (show nI 20 ≤ nI k from c) (nI_ge (by omega) (by decide))) (fun _ => ?_)
      refine And.intro (x_ix_nI (by omega) (by omega)) ?_
      rw [nI_clamp (by omega)]
      refine And.intro (x_ix_nI (by omega) (by omega)) ?_
      rw [nI_clamp (by omega)]
      have e := ih (k + 1) (x_up (x_up F 19 k 0) 20 k 0) G (by omega) h1 h2 h3 (fun j hj => by
        by_cases q : j = k
        · rw [q]
          exact ⟨(congrFun (x_up_k (by decide)) _).trans (x_up_s _ _ _ _), x_up_s _ _ _ _⟩
        · have := h4 j (by omega)
          exact ⟨(congrFun (x_up_k (by decide)) _).trans ((x_up_j q).trans this.1), (x_up_j q).trans this.2⟩) (fun c q1 q2 q3 q4 q5 => (x_up_k q4).trans ((x_up_k q3).trans (h6 c q1 q2 q3 q4 q5))) h7
      rw [← nI_1o] at e
      exact e
  refine x_Ct_w (by decide) (Nat.le_of_ble_eq_true rfl) ok1 [65, 96] 6 ?_
  refine And.intro (x_ix_nI (j := 0) (by decide) (by decide)) ?_
  refine And.intro (x_ix_nI (j := 1) (by decide) (by decide)) ?_
  refine And.intro (x_ix_nI (j := 2) (by decide) (by decide)) ?_
  refine loop1 20 0 _ _ (by decide) ⟨rfl, rfl, rfl, rfl, rfl, rfl⟩ ⟨rfl, rfl, rfl⟩ ⟨rfl, rfl⟩ (fun j q => absurd q (Nat.not_lt_zero _)) (fun c q1 q2 q3 q4 q5 => ?_) (fun c q => ?_)
  · exact (x_up_k q1).trans ((x_up_k q1).trans ((x_up_k q1).trans ((x_up_k q2).trans ((x_up_k q2).trans ((x_up_k q2).trans ((x_up_k q1).trans ((x_up_k q1).trans (x_up_k q1))))))))
  · exact (x_up_k q).trans (x_up_k q)
theorem c_clear_22 : x_Ct 1 d [.ref 22] (f, g, x_HR r t, dm, n) (fun q h' => q = none ∧ ∃ F G, h' = (F, G, x_HR r t, dm, n) ∧ x_CL0 f g 22 F G) := by
  obtain ⟨Po, hPo⟩ : ∃ Po : Option Value → xH → Prop, Po = (fun q h' => q = none ∧ ∃ F G, h' = (F, G, x_HR r t, dm, n) ∧ x_CL0 f g 22 F G) := ⟨_, rfl⟩
  rw [← hPo]
  have loop2 : ∀ m k F G, k + m = 25 → (F 22 0 = 0 ∧ F 22 1 = 0 ∧ F 22 2 = 0 ∧ F 22 3 = 0 ∧ F 22 4 = 1 ∧ F 22 5 = 0) → (F 23 0 = 500 ∧ F 23 1 = 3 ∧ F 23 2 = 0) → (G 22 6 = 0 ∧ G 22 7 = 0) → (∀ j, j < 20 → F 29 j = 0 ∧ F 30 j = 0) → (∀ j, j < k → F 31 j = 0) → (∀ c, c ≠ 22 → c ≠ 23 → c ≠ 29 → c ≠ 30 → c ≠ 31 → F c = f c) → (∀ c, c ≠ 22 → G c = g c) → x_J 1 d Po 96 [some (.ref 22), some (.int (nI k))] [] (F, G, x_HR r t, dm, n) 0 0 := by
    intro m
    induction m with
    | zero =>
      intro k F G hk h1 h2 h3 h4 h5 h6 h7
      obtain rfl : k = 25 := by omega
      refine x_wp_ok ok1 [65, 96] 6 ?_
      refine And.intro (fun _ => ?_) (fun c => absurd (by decide) c)
      refine And.intro ?_ ⟨trivial, Nat.le_refl _, Nat.le_refl _⟩
      rw [hPo]
      exact ⟨rfl, F, G, rfl, h1, h2, h3, h4, h5, h6, h7⟩
    | succ m ih =>
      intro k F G hk h1 h2 h3 h4 h5 h6 h7
      refine x_wp_ok ok1 [65, 96] 6 ?_
      refine And.intro (fun c => absurd (show nI 25 ≤ nI k from c) (nI_ge (by omega) (by decide))) (fun _ => ?_)
      refine And.intro (x_ix_nI (by omega) (by omega)) ?_
      rw [nI_clamp (by omega)]
      have e := ih (k + 1) (x_up F 31 k 0) G (by omega) h1 h2 h3 h4 (fun j hj => by
        by_cases q : j = k
        · rw [q, x_up_s]
        · rw [x_up_j q]
          exact h5 j (by omega)) (fun c q1 q2 q3 q4 q5 => (x_up_k q5).trans (h6 c q1 q2 q3 q4 q5)) h7
      rw [← nI_1o] at e
      exact e
  have loop1 : ∀ m k F G, k + m = 20 → (F 22 0 = 0 ∧ F 22 1 = 0 ∧ F 22 2 = 0 ∧ F 22 3 = 0 ∧ F 22 4 = 1 ∧ F 22 5 = 0) → (F 23 0 = 500 ∧ F 23 1 = 3 ∧ F 23 2 = 0) → (G 22 6 = 0 ∧ G 22 7 = 0) → (∀ j, j < k → F 29 j = 0 ∧ F 30 j = 0) → (∀ c, c ≠ 22 → c ≠ 23 → c ≠ 29 → c ≠ 30 → c ≠ 31 → F c = f c) → (∀ c, c ≠ 22 → G c = g c) → x_J 1 d Po 65 [some (.ref 22), some (.int (nI k))] [] (F, G, x_HR r t, dm, n) 0 0 := by
    intro m
    induction m with
    | zero =>
      intro k F G hk h1 h2 h3 h4 h6 h7
      obtain rfl : k = 20 := by omega
      refine x_wp_ok ok1 [65, 96] 6 ?_
      refine And.intro (fun _ => ?_) (fun c => absurd (by decide) c)
      exact loop2 25 0 F G (by decide) h1 h2 h3 h4 (fun j q => absurd q (Nat.not_lt_zero _)) h6 h7
    | succ m ih =>
      intro k F G hk h1 h2 h3 h4 h6 h7
      refine x_wp_ok ok1 [65, 96] 6 ?_
      refine And.intro (fun c => absurd (show nI 20 ≤ nI k from c) (nI_ge (by omega) (by decide))) (fun _ => ?_)
      refine And.intro (x_ix_nI (by omega) (by omega)) ?_
      rw [nI_clamp (by omega)]
      refine And.intro (x_ix_nI (by omega) (by omega)) ?_
      rw [nI_clamp (by omega)]
      have e := ih (k + 1) (x_up (x_up F 29 k 0) 30 k 0) G (by omega) h1 h2 h3 (fun j hj => by
        by_cases q : j = k
        · rw [q]
          exact ⟨(congrFun (x_up_k (by decide)) _).trans (x_up_s _ _ _ _), x_up_s _ _ _ _⟩
        · have := h4 j (by omega)
          exact ⟨(congrFun (x_up_k (by decide)) _).trans ((x_up_j q).trans this.1), (x_up_j q).trans this.2⟩) (fun c q1 q2 q3 q4 q5 => (x_up_k q4).trans ((x_up_k q3).trans (h6 c q1 q2 q3 q4 q5))) h7
      rw [← nI_1o] at e
      exact e
  refine x_Ct_w (by decide) (Nat.le_of_ble_eq_true rfl) ok1 [65, 96] 6 ?_
  refine And.intro (x_ix_nI (j := 0) (by decide) (by decide)) ?_
  refine And.intro (x_ix_nI (j := 1) (by decide) (by decide)) ?_
  refine And.intro (x_ix_nI (j := 2) (by decide) (by decide)) ?_
  refine loop1 20 0 _ _ (by decide) ⟨rfl, rfl, rfl, rfl, rfl, rfl⟩ ⟨rfl, rfl, rfl⟩ ⟨rfl, rfl⟩ (fun j q => absurd q (Nat.not_lt_zero _)) (fun c q1 q2 q3 q4 q5 => ?_) (fun c q => ?_)
  · exact (x_up_k q1).trans ((x_up_k q1).trans ((x_up_k q1).trans ((x_up_k q2).trans ((x_up_k q2).trans ((x_up_k q2).trans ((x_up_k q1).trans ((x_up_k q1).trans (x_up_k q1))))))))
  · exact (x_up_k q).trans (x_up_k q)
theorem c_clearS_32 : x_Ct 57 d [.ref 32] (f, g, x_HR r t, dm, n) (fun q h' => q = none ∧ h' = (x_up (x_up (x_up f 32 0 0) 32 1 0) 32 2 0, g, x_HR r t, dm, n)) := by
  refine x_Ct_w (by decide) (Nat.le_of_ble_eq_true rfl) ok57 [] 6 ?_
  refine And.intro (Or.inl rfl) ?_
  exact And.intro ⟨rfl, rfl⟩ ⟨trivial, Nat.le_refl _, Nat.le_refl _⟩
theorem c_clearS_39 : x_Ct 57 d [.ref 39] (f, g, x_HR r t, dm, n) (fun q h' => q = none ∧ h' = (x_up (x_up (x_up f 39 0 0) 39 1 0) 39 2 0, g, x_HR r t, dm, n)) := by
  refine x_Ct_w (by decide) (Nat.le_of_ble_eq_true rfl) ok57 [] 6 ?_
  refine And.intro (Or.inl rfl) ?_
  exact And.intro ⟨rfl, rfl⟩ ⟨trivial, Nat.le_refl _, Nat.le_refl _⟩
end C70
