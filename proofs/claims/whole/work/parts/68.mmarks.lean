/-! the model's copies(), mark(), undo() -/
def x_CM (f : Nat → Nat → Int32) (g : Nat → Nat → Int64) (a b : Nat) (F : Nat → Nat → Int32) (G : Nat → Nat → Int64) : Prop := (∀ j, F 501 j = if 464 * b ≤ j ∧ j < 464 * b + 464 then f 501 (464 * a + (j - 464 * b)) else f 501 j) ∧ (∀ j, G 502 j = if 14 * b ≤ j ∧ j < 14 * b + 14 then g 502 (14 * a + (j - 14 * b)) else g 502 j) ∧ (∀ c, c ≠ 501 → F c = f c) ∧ ∀ c, c ≠ 502 → G c = g c
section C68
variable {f : Nat → Nat → Int32} {g : Nat → Nat → Int64} {r t : Nat} {dm : List Nat} {n d N : Nat} {v : xV}
theorem m_copies {a b : Nat} (ha : a ≤ 3) (hb : b ≤ 3) (hab : a ≠ b) : x_Ct 325 d [.ref 500, .int (nI a), .int (nI b)] (f, g, x_HR r t, dm, n) (fun q h' => q = none ∧ ∃ F G, h' = (F, G, x_HR r t, dm, n) ∧ x_CM f g a b F G) := by
  obtain ⟨Po, hPo⟩ : ∃ Po : Option Value → xH → Prop, Po = (fun q h' => q = none ∧ ∃ F G, h' = (F, G, x_HR r t, dm, n) ∧ x_CM f g a b F G) := ⟨_, rfl⟩
  rw [← hPo]
  have loop2 : ∀ m k F G, k + m = 14 → (∀ j, F 501 j = if 464 * b ≤ j ∧ j < 464 * b + 464 then f 501 (464 * a + (j - 464 * b)) else f 501 j) → (∀ c, c ≠ 501 → F c = f c) → (∀ j, G 502 j = if 14 * b ≤ j ∧ j < 14 * b + k then g 502 (14 * a + (j - 14 * b)) else g 502 j) → (∀ c, c ≠ 502 → G c = g c) → x_J 325 d Po 41 [some (.ref 500), some (.int (nI a)), some (.int (nI b)), some (.int (nI k))] [] (F, G, x_HR r t, dm, n) 0 0 := by
    intro m
    induction m with
    | zero =>
      intro k F G hk h1 h2 h3 h4
      obtain rfl : k = 14 := by omega
      refine x_wp_ok ok325 [2, 41] 6 ?_
      refine And.intro (fun _ => ?_) (fun c => absurd (show nI 14 ≤ nI 14 by decide) c)
      refine And.intro ?_ ⟨trivial, Nat.le_refl _, Nat.le_refl _⟩
      rw [hPo]
      exact ⟨rfl, F, G, rfl, h1, h3, h2, h4⟩
    | succ m ih =>
      intro k F G hk h1 h2 h3 h4
      have ia : nI 14 * nI a + nI k = nI (14 * a + k) := by rw [pk_mul, nI_add]
      have ib : nI 14 * nI b + nI k = nI (14 * b + k) := by rw [pk_mul, nI_add]
      refine x_wp_ok ok325 [2, 41] 6 ?_
      refine And.intro (fun c => absurd (show nI 14 ≤ nI k from c) (nI_ge (by omega) (by decide))) (fun _ => ?_)
      refine And.intro (by show x_ix (nI 14 * nI a + nI k) 84; rw [ia]; exact x_ix_nI (by omega) (by omega)) ?_
      refine And.intro (by show x_ix (nI 14 * nI b + nI k) 84; rw [ib]; exact x_ix_nI (by omega) (by omega)) ?_
      have e := ih (k + 1) F (x_up G 502 (14 * b + k) (G 502 (14 * a + k))) (by omega) h1 h2 (fun j => by
        by_cases hj : j = 14 * b + k
        · rw [hj, x_up_s, h3, if_neg (by omega), if_pos (by omega)]
          congr 1
          omega
        · rw [x_up_j hj, h3 j]
          by_cases q : 14 * b ≤ j ∧ j < 14 * b + k
          · rw [if_pos q, if_pos (by omega)]
          · rw [if_neg q, if_neg (by omega)]) (fun c q => (x_up_k q).trans (h4 c q))
      rw [← nI_1o, ← nI_clamp (show 14 * b + k < 2 ^ 31 by omega), ← nI_clamp (show 14 * a + k < 2 ^ 31 by omega), ← ia, ← ib] at e
      exact e
  have loop1 : ∀ m k F, k + m = 464 → (∀ j, F 501 j = if 464 * b ≤ j ∧ j < 464 * b + k then f 501 (464 * a + (j - 464 * b)) else f 501 j) → (∀ c, c ≠ 501 → F c = f c) → x_J 325 d Po 2 [some (.ref 500), some (.int (nI a)), some (.int (nI b)), some (.int (nI k))] [] (F, g, x_HR r t, dm, n) 0 0 := by
    intro m
    induction m with
    | zero =>
      intro k F hk h1 h2
      obtain rfl : k = 464 := by omega
      refine x_wp_ok ok325 [2, 41] 6 ?_
      refine And.intro (fun _ => ?_) (fun c => absurd (show nI 464 ≤ nI 464 by decide) c)
      exact loop2 14 0 F g (by decide) h1 h2 (fun j => by rw [if_neg (by omega)]) (fun _ _ => rfl)
    | succ m ih =>
      intro k F hk h1 h2
      have ia : nI 464 * nI a + nI k = nI (464 * a + k) := by rw [pk_mul, nI_add]
      have ib : nI 464 * nI b + nI k = nI (464 * b + k) := by rw [pk_mul, nI_add]
      refine x_wp_ok ok325 [2, 41] 6 ?_
      refine And.intro (fun c => absurd (show nI 464 ≤ nI k from c) (nI_ge (by omega) (by decide))) (fun _ => ?_)
      refine And.intro (by show x_ix (nI 464 * nI a + nI k) 3168; rw [ia]; exact x_ix_nI (by omega) (by omega)) ?_
      refine And.intro (by show x_ix (nI 464 * nI b + nI k) 3168; rw [ib]; exact x_ix_nI (by omega) (by omega)) ?_
      have e := ih (k + 1) (x_up F 501 (464 * b + k) (F 501 (464 * a + k))) (by omega) (fun j => by
        by_cases hj : j = 464 * b + k
        · rw [hj, x_up_s, h1, if_neg (by omega), if_pos (by omega)]
          congr 1
          omega
        · rw [x_up_j hj, h1 j]
          by_cases q : 464 * b ≤ j ∧ j < 464 * b + k
          · rw [if_pos q, if_pos (by omega)]
          · rw [if_neg q, if_neg (by omega)]) (fun c q => (x_up_k q).trans (h2 c q))
      rw [← nI_1o, ← nI_clamp (show 464 * b + k < 2 ^ 31 by omega), ← nI_clamp (show 464 * a + k < 2 ^ 31 by omega), ← ia, ← ib] at e
      exact e
  refine x_Ct_w (by decide) (Nat.le_of_ble_eq_true rfl) ok325 [2, 41] 6 ?_
  exact loop1 464 0 f (by decide) (fun j => by rw [if_neg (by omega)]) (fun _ _ => rfl)
theorem m_mark {μ : Nat} (hm : f 500 38 = nI μ) (hμ : μ ≤ 3) : x_Ct 326 (d + 1) [.ref 500] (f, g, x_HR r t, dm, n) (fun q h' => if μ = 3 then q = some (.int (-1)) ∧ h' = (x_up f 500 2 4, g, x_HR r t, dm, n) else q = some (.int (nI (μ + 1))) ∧ ∃ F G, x_CM (x_up f 500 38 (nI (μ + 1))) g 0 (μ + 1) F G ∧ h' = (x_up F 500 2 0, G, x_HR r t, dm, n)) := by
  obtain ⟨Po, hPo⟩ : ∃ Po : Option Value → xH → Prop, Po = (fun q h' => if μ = 3 then q = some (.int (-1)) ∧ h' = (x_up f 500 2 4, g, x_HR r t, dm, n) else q = some (.int (nI (μ + 1))) ∧ ∃ F G, x_CM (x_up f 500 38 (nI (μ + 1))) g 0 (μ + 1) F G ∧ h' = (x_up F 500 2 0, G, x_HR r t, dm, n)) := ⟨_, rfl⟩
  rw [← hPo]
  refine x_Ct_w (by decide) (Nat.le_of_ble_eq_true rfl) ok326 [] 6 ?_
  by_cases h3 : μ = 3
  · refine And.intro (fun c => absurd (show f 500 38 = nI 3 by rw [hm, h3]) c) (fun _ => ?_)
    refine Exists.intro _ (And.intro m_refuse (And.intro (And.intro (Nat.zero_le _) (Nat.zero_le _)) (fun q h' hpo => ?_)))
    obtain ⟨rfl, rfl⟩ := hpo
    refine And.intro ?_ ⟨trivial, Nat.le_refl _, Nat.le_refl _⟩
    rw [hPo]
    show (if μ = 3 then _ else _)
    rw [if_pos h3]
    exact ⟨rfl, rfl⟩
  · refine And.intro (fun _ => ?_) (fun c => absurd (show f 500 38 = nI 3 from c) (by rw [hm, nI_eq (by omega) (by decide)]; exact h3))
    have es : f 500 38 + 1 = nI (μ + 1) := by rw [hm, nI_1]
    obtain ⟨f1, hf1⟩ : ∃ f1, f1 = x_up f 500 38 (nI (μ + 1)) := ⟨_, rfl⟩
    have e38 : f1 500 38 = nI (μ + 1) := by rw [hf1]; exact x_up_s _ _ _ _
    have cl := m_copies (d := d) (f := f1) (g := g) (r := r) (t := t) (dm := dm) (n := n) (a := 0) (b := μ + 1) (by decide) (by omega) (by omega)
    rw [← e38, hf1, ← es] at cl
    refine Exists.intro _ (And.intro cl (And.intro (And.intro (Nat.zero_le _) (Nat.zero_le _)) (fun q h' hpo => ?_)))
    obtain ⟨rfl, F, G, rfl, hcm⟩ := hpo
    rw [es] at hcm
    refine Exists.intro _ (And.intro m_gives (And.intro (And.intro (Nat.zero_le _) (Nat.zero_le _)) (fun q h' hpo => ?_)))
    obtain ⟨rfl, rfl⟩ := hpo
    refine And.intro ?_ ⟨trivial, Nat.le_refl _, Nat.le_refl _⟩
    rw [hPo]
    show (if μ = 3 then _ else _)
    rw [if_neg h3]
    refine ⟨congrArg (fun z => some (Value.int z)) ?_, F, G, hcm, rfl⟩
    show F 500 38 = _
    rw [hcm.2.2.1 500 (by decide)]
    exact x_up_s _ _ _ _
theorem m_undo {μ : Nat} (hm : f 500 38 = nI μ) (hμ : μ ≤ 3) : x_Ct 327 (d + 1) [.ref 500] (f, g, x_HR r t, dm, n) (fun q h' => if μ = 0 then q = some (.int (-1)) ∧ h' = (x_up f 500 2 6, g, x_HR r t, dm, n) else q = some (.int (nI (μ - 1))) ∧ ∃ F G, x_CM f g μ 0 F G ∧ h' = (x_up (x_up F 500 38 (nI (μ - 1))) 500 2 0, G, x_HR r t, dm, n)) := by
  obtain ⟨Po, hPo⟩ : ∃ Po : Option Value → xH → Prop, Po = (fun q h' => if μ = 0 then q = some (.int (-1)) ∧ h' = (x_up f 500 2 6, g, x_HR r t, dm, n) else q = some (.int (nI (μ - 1))) ∧ ∃ F G, x_CM f g μ 0 F G ∧ h' = (x_up (x_up F 500 38 (nI (μ - 1))) 500 2 0, G, x_HR r t, dm, n)) := ⟨_, rfl⟩
  rw [← hPo]
  refine x_Ct_w (by decide) (Nat.le_of_ble_eq_true rfl) ok327 [] 6 ?_
  by_cases h3 : μ = 0
  · refine And.intro (fun c => absurd (show f 500 38 = 0 by rw [hm, h3]; rfl) c) (fun _ => ?_)
    refine Exists.intro _ (And.intro m_refuse (And.intro (And.intro (Nat.zero_le _) (Nat.zero_le _)) (fun q h' hpo => ?_)))
    obtain ⟨rfl, rfl⟩ := hpo
    refine And.intro ?_ ⟨trivial, Nat.le_refl _, Nat.le_refl _⟩
    rw [hPo]
    show (if μ = 0 then _ else _)
    rw [if_pos h3]
    exact ⟨rfl, rfl⟩
  · refine And.intro (fun _ => ?_) (fun c => absurd (show f 500 38 = nI 0 from c) (by rw [hm, nI_eq (by omega) (by decide)]; exact h3))
    have cl := m_copies (d := d) (f := f) (g := g) (r := r) (t := t) (dm := dm) (n := n) (a := μ) (b := 0) (by omega) (by decide) h3
    rw [← hm] at cl
    refine Exists.intro _ (And.intro cl (And.intro (And.intro (Nat.zero_le _) (Nat.zero_le _)) (fun q h' hpo => ?_)))
    obtain ⟨rfl, F, G, rfl, hcm⟩ := hpo
    have es : F 500 38 - 1 = nI (μ - 1) := by rw [hcm.2.2.1 500 (by decide), hm, show (1 : Int32) = nI 1 from rfl, pk_sub (by omega)]
    refine Exists.intro _ (And.intro m_gives (And.intro (And.intro (Nat.zero_le _) (Nat.zero_le _)) (fun q h' hpo => ?_)))
    obtain ⟨rfl, rfl⟩ := hpo
    refine And.intro ?_ ⟨trivial, Nat.le_refl _, Nat.le_refl _⟩
    rw [hPo]
    show (if μ = 0 then _ else _)
    rw [if_neg h3]
    refine ⟨congrArg (fun z => some (Value.int z)) ?_, F, G, hcm, ?_⟩
    · show x_up F 500 38 (F 500 38 - 1) 500 38 = _
      rw [x_up_s]
      exact es
    · rw [← es]
      rfl
end C68
