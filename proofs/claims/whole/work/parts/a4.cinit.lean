/-! the constructors' first steps: the table of references, with four rows that are not filled yet -/
def x_HB4 (R0 R1 R2 R3 : Nat → Option Nat) : Nat → Nat → Option Nat := va_up (va_up (va_up (va_up (x_HR 12 32) 0 R0) 1 R1) 46 R2) 47 R3
theorem x_HB4_o {R0 R1 R2 R3 : Nat → Option Nat} {c : Nat} (h0 : c ≠ 0) (h1 : c ≠ 1) (h2 : c ≠ 46) (h3 : c ≠ 47) : x_HB4 R0 R1 R2 R3 c = x_HR 12 32 c := by
  unfold x_HB4
  rw [x_un h3, x_un h2, x_un h1, x_un h0]
theorem x_vu_up' {α : Type} {f : Nat → Nat → α} {c j : Nat} {u : Nat → α} {b : α} : x_up (va_up f c u) c j b = va_up f c (va_up u j b) := by
  unfold x_up
  rw [x_us, x_up2]
/-- a new array's row of references is none, as it was -/
theorem x_row_a {ρ : Nat → Nat → Option Nat} {L a : Nat} {u : Nat → Option Nat} (h : ρ a = fun _ => none) (hne : a ≠ L) : va_up (va_up ρ L u) a (fun _ => none) = va_up ρ L u := by
  funext c
  by_cases e : c = a
  · rw [e, x_us, x_un hne, h]
  · rw [x_un e]
theorem x_row_f {α : Type} {ρ : Nat → Nat → α} {L : Nat} {u : Nat → α} (h : u = ρ L) : va_up ρ L u = ρ := by
  subst h
  funext c
  by_cases e : c = L
  · rw [e, x_us]
  · rw [x_un e]
theorem x_nin {dm : List Nat} {k a : Nat} (h : k ∉ dm) (hne : k ≠ a) : k ∉ dm ++ [a] := by
  intro q
  rcases List.mem_append.mp q with q | q
  · exact h q
  · exact hne (List.mem_singleton.mp q)
section Ca4
variable {f : Nat → Nat → Int32} {g : Nat → Nat → Int64} {R0 R1 R2 R3 : Nat → Option Nat} {dm : List Nat} {n d : Nat}
theorem c_clrI_12 : x_Ct 1 d [.ref 12] (f, g, x_HB4 R0 R1 R2 R3, dm, n) (fun q h' => q = none ∧ ∃ F G, h' = (F, G, x_HB4 R0 R1 R2 R3, dm, n) ∧ x_CL0 f g 12 F G) := by
  obtain ⟨Po, hPo⟩ : ∃ Po : Option Value → xH → Prop, Po = (fun q h' => q = none ∧ ∃ F G, h' = (F, G, x_HB4 R0 R1 R2 R3, dm, n) ∧ x_CL0 f g 12 F G) := ⟨_, rfl⟩
  rw [← hPo]
  have loop2 : ∀ m k F G, k + m = 25 → (F 12 0 = 0 ∧ F 12 1 = 0 ∧ F 12 2 = 0 ∧ F 12 3 = 0 ∧ F 12 4 = 1 ∧ F 12 5 = 0) → (F 13 0 = 500 ∧ F 13 1 = 3 ∧ F 13 2 = 0) → (G 12 6 = 0 ∧ G 12 7 = 0) → (∀ j, j < 20 → F 19 j = 0 ∧ F 20 j = 0) → (∀ j, j < k → F 21 j = 0) → (∀ c, c ≠ 12 → c ≠ 13 → c ≠ 19 → c ≠ 20 → c ≠ 21 → F c = f c) → (∀ c, c ≠ 12 → G c = g c) → x_J 1 d Po 96 [some (.ref 12), some (.int (nI k))] [] (F, G, x_HB4 R0 R1 R2 R3, dm, n) 0 0 := by
    intro m
    induction m with
    | zero =>
      intro k F G hk h1 h2 h3 h4 h5 h6 h7
      obtain rfl : k = 25 := by omega
      refine x_wp_ok ok1 [65, 96] 6 ?_
      refine And.intro (fun _ => ?_) (fun c => absurd (by decide) c)
      refine And.intro ?_ ⟨trivial, Nat.le_refl _, Nat.le_refl _⟩
      rw [hPo]
      exact ⟨rfl, F, G, rfl, h1, h2, h3, h4, h5, h6, h7⟩
    | succ m ih =>
      intro k F G hk h1 h2 h3 h4 h5 h6 h7
      refine x_wp_ok ok1 [65, 96] 6 ?_
      refine And.intro (fun c => absurd (show nI 25 ≤ nI k from c) (nI_ge (by omega) (by decide))) (fun _ => ?_)
      refine And.intro (x_ix_nI (by omega) (by omega)) ?_
      rw [nI_clamp (by omega)]
      have e := ih (k + 1) (x_up F 21 k 0) G (by omega) h1 h2 h3 h4 (fun j hj => by
        by_cases q : j = k
        · rw [q, x_up_s]
        · rw [x_up_j q]
          exact h5 j (by omega)) (fun c q1 q2 q3 q4 q5 => (x_up_k q5).trans (h6 c q1 q2 q3 q4 q5)) h7
      rw [← nI_1o] at e
      exact e
  have loop1 : ∀ m k F G, k + m = 20 → (F 12 0 = 0 ∧ F 12 1 = 0 ∧ F 12 2 = 0 ∧ F 12 3 = 0 ∧ F 12 4 = 1 ∧ F 12 5 = 0) → (F 13 0 = 500 ∧ F 13 1 = 3 ∧ F 13 2 = 0) → (G 12 6 = 0 ∧ G 12 7 = 0) → (∀ j, j < k → F 19 j = 0 ∧ F 20 j = 0) → (∀ c, c ≠ 12 → c ≠ 13 → c ≠ 19 → c ≠ 20 → c ≠ 21 → F c = f c) → (∀ c, c ≠ 12 → G c = g c) → x_J 1 d Po 65 [some (.ref 12), some (.int (nI k))] [] (F, G, x_HB4 R0 R1 R2 R3, dm, n) 0 0 := by
    intro m
    induction m with
    | zero =>
      intro k F G hk h1 h2 h3 h4 h6 h7
      obtain rfl : k = 20 := by omega
      refine x_wp_ok ok1 [65, 96] 6 ?_
      refine And.intro (fun _ => ?_) (fun c => absurd (by decide) c)
      exact loop2 25 0 F G (by decide) h1 h2 h3 h4 (fun j q => absurd q (Nat.not_lt_zero _)) h6 h7
    | succ m ih =>
      intro k F G hk h1 h2 h3 h4 h6 h7
      refine x_wp_ok ok1 [65, 96] 6 ?_
      refine And.intro (fun c => absurd (show nI 20 ≤ nI k from c) (nI_ge (by omega) (by decide))) (fun _ => ?_)
      refine And.intro (x_ix_nI (by omega) (by omega)) ?_
      rw [nI_clamp (by omega)]
      refine And.intro (x_ix_nI (by omega) (by omega)) ?_
      rw [nI_clamp (by omega)]
      have e := ih (k + 1) (x_up (x_up F 19 k 0) 20 k 0) G (by omega) h1 h2 h3 (fun j hj => by
        by_cases q : j = k
        · rw [q]
          exact ⟨(congrFun (x_up_k (by decide)) _).trans (x_up_s _ _ _ _), x_up_s _ _ _ _⟩
        · have := h4 j (by omega)
          exact ⟨(congrFun (x_up_k (by decide)) _).trans ((x_up_j q).trans this.1), (x_up_j q).trans this.2⟩) (fun c q1 q2 q3 q4 q5 => (x_up_k q4).trans ((x_up_k q3).trans (h6 c q1 q2 q3 q4 q5))) h7
      rw [← nI_1o] at e
      exact e
  refine x_Ct_w (by decide) (Nat.le_of_ble_eq_true rfl) ok1 [65, 96] 6 ?_
  refine And.intro (x_ix_nI (j := 0) (by decide) (by decide)) ?_
  refine And.intro (x_ix_nI (j := 1) (by decide) (by decide)) ?_
  refine And.intro (x_ix_nI (j := 2) (by decide) (by decide)) ?_
  refine loop1 20 0 _ _ (by decide) ⟨rfl, rfl, rfl, rfl, rfl, rfl⟩ ⟨rfl, rfl, rfl⟩ ⟨rfl, rfl⟩ (fun j q => absurd q (Nat.not_lt_zero _)) (fun c q1 q2 q3 q4 q5 => ?_) (fun c q => ?_)
  · exact (x_up_k q1).trans ((x_up_k q1).trans ((x_up_k q1).trans ((x_up_k q2).trans ((x_up_k q2).trans ((x_up_k q2).trans ((x_up_k q1).trans ((x_up_k q1).trans (x_up_k q1))))))))
  · exact (x_up_k q).trans (x_up_k q)
theorem c_initLand_12 (n1 : 13 ∉ dm) (n2 : 14 ∉ dm) (n3 : 15 ∉ dm) (n4 : 16 ∉ dm) (n5 : 17 ∉ dm) (n6 : 18 ∉ dm) (n7 : 19 ∉ dm) (n8 : 20 ∉ dm) (n9 : 21 ∉ dm) : x_Ct 0 (d + 2) [.ref 12] (f, g, va_up (x_HB4 R0 R1 R2 R3) 12 (fun _ => none), dm, 13) (fun z h' => z = none ∧ ∃ F G, h' = (F, G, x_HB4 R0 R1 R2 R3, dm ++ [13] ++ [14] ++ [15] ++ [16] ++ [17] ++ [18] ++ [19] ++ [20] ++ [21], 22) ∧ ∃ F0 G0, x_CL0 F0 G0 12 F G ∧ ∀ c, c < 12 ∨ 21 < c → F0 c = f c ∧ G0 c = g c) := by
  obtain ⟨Po, hPo⟩ : ∃ Po : Option Value → xH → Prop, Po = (fun z h' => z = none ∧ ∃ F G, h' = (F, G, x_HB4 R0 R1 R2 R3, dm ++ [13] ++ [14] ++ [15] ++ [16] ++ [17] ++ [18] ++ [19] ++ [20] ++ [21], 22) ∧ ∃ F0 G0, x_CL0 F0 G0 12 F G ∧ ∀ c, c < 12 ∨ 21 < c → F0 c = f c ∧ G0 c = g c) := ⟨_, rfl⟩
  rw [← hPo]
  have hrow : (va_up (va_up (va_up (va_up (va_up (va_up (va_up (va_up (va_up (fun _ => none) 8 (some 13)) 9 (some 14)) 10 (some 15)) 11 (some 16)) 12 (some 17)) 13 (some 18)) 14 (some 19)) 15 (some 20)) 16 (some 21)) = x_HB4 R0 R1 R2 R3 12 := by
    funext b
    show _ = if 8 ≤ b ∧ b ≤ 16 then some (12 + (b - 7)) else none
    by_cases b16 : b = 16
    · subst b16
      rfl
    rw [x_un b16]
    by_cases b15 : b = 15
    · subst b15
      rfl
    rw [x_un b15]
    by_cases b14 : b = 14
    · subst b14
      rfl
    rw [x_un b14]
    by_cases b13 : b = 13
    · subst b13
      rfl
    rw [x_un b13]
    by_cases b12 : b = 12
    · subst b12
      rfl
    rw [x_un b12]
    by_cases b11 : b = 11
    · subst b11
      rfl
    rw [x_un b11]
    by_cases b10 : b = 10
    · subst b10
      rfl
    rw [x_un b10]
    by_cases b9 : b = 9
    · subst b9
      rfl
    rw [x_un b9]
    by_cases b8 : b = 8
    · subst b8
      rfl
    rw [x_un b8]
    rw [if_neg (by omega)]
  have s9 : ∀ F G, (∀ c, c < 12 ∨ 21 < c → F c = f c ∧ G c = g c) → x_J 0 (d + 2) Po 71 [some (.ref 12)] [] (F, G, va_up (x_HB4 R0 R1 R2 R3) 12 (va_up (va_up (va_up (va_up (va_up (va_up (va_up (va_up (va_up (fun _ => none) 8 (some 13)) 9 (some 14)) 10 (some 15)) 11 (some 16)) 12 (some 17)) 13 (some 18)) 14 (some 19)) 15 (some 20)) 16 (some 21)), dm ++ [13] ++ [14] ++ [15] ++ [16] ++ [17] ++ [18] ++ [19] ++ [20] ++ [21], 22) 9 101 := by
    intro F G hf
    rw [x_row_f hrow]
    refine x_wp_ok ok0 [] 6 ?_
    refine Exists.intro _ (And.intro (c_clrI_12 (R0 := R0) (R1 := R1) (R2 := R2) (R3 := R3)) (And.intro (And.intro (Nat.le_of_ble_eq_true rfl) (Nat.le_of_ble_eq_true rfl)) (fun zq h' hpo => ?_)))
    obtain ⟨rfl, F2, G2, rfl, w⟩ := hpo
    refine And.intro ?_ ⟨trivial, Nat.le_of_ble_eq_true rfl, Nat.le_of_ble_eq_true rfl⟩
    rw [hPo]
    exact ⟨rfl, F2, G2, rfl, F, G, w, hf⟩
  have s8 : ∀ F G, (∀ c, c < 12 ∨ 21 < c → F c = f c ∧ G c = g c) → x_J 0 (d + 2) Po 63 [some (.ref 12)] [] (F, G, va_up (x_HB4 R0 R1 R2 R3) 12 (va_up (va_up (va_up (va_up (va_up (va_up (va_up (va_up (fun _ => none) 8 (some 13)) 9 (some 14)) 10 (some 15)) 11 (some 16)) 12 (some 17)) 13 (some 18)) 14 (some 19)) 15 (some 20)), dm ++ [13] ++ [14] ++ [15] ++ [16] ++ [17] ++ [18] ++ [19] ++ [20], 21) 8 76 := by
    intro F G hf
    refine x_wp_ok ok0 [71] 6 ?_
    refine And.intro ⟨by decide, rfl, (x_nin (x_nin (x_nin (x_nin (x_nin (x_nin (x_nin (x_nin n9 (show (21 : Nat) ≠ 13 by decide)) (show (21 : Nat) ≠ 14 by decide)) (show (21 : Nat) ≠ 15 by decide)) (show (21 : Nat) ≠ 16 by decide)) (show (21 : Nat) ≠ 17 by decide)) (show (21 : Nat) ≠ 18 by decide)) (show (21 : Nat) ≠ 19 by decide)) (show (21 : Nat) ≠ 20 by decide)), show (21 : Nat) < 1000 by decide, by decide⟩ ?_
    refine And.intro ⟨Nat.le_of_ble_eq_true rfl, Nat.le_of_ble_eq_true rfl⟩ ?_
    have e := s9 (va_up F 21 (fun _ => 0)) (va_up G 21 (fun _ => 0)) (fun c hc => ⟨by rw [x_un (by omega)]; exact (hf c hc).1, by rw [x_un (by omega)]; exact (hf c hc).2⟩)
    rw [← x_vu_up', ← x_row_a (a := 21) (ρ := x_HB4 R0 R1 R2 R3) (L := 12) (u := (va_up (va_up (va_up (va_up (va_up (va_up (va_up (va_up (fun _ => none) 8 (some 13)) 9 (some 14)) 10 (some 15)) 11 (some 16)) 12 (some 17)) 13 (some 18)) 14 (some 19)) 15 (some 20))) rfl (by decide)] at e
    exact e
  have s7 : ∀ F G, (∀ c, c < 12 ∨ 21 < c → F c = f c ∧ G c = g c) → x_J 0 (d + 2) Po 55 [some (.ref 12)] [] (F, G, va_up (x_HB4 R0 R1 R2 R3) 12 (va_up (va_up (va_up (va_up (va_up (va_up (va_up (fun _ => none) 8 (some 13)) 9 (some 14)) 10 (some 15)) 11 (some 16)) 12 (some 17)) 13 (some 18)) 14 (some 19)), dm ++ [13] ++ [14] ++ [15] ++ [16] ++ [17] ++ [18] ++ [19], 20) 7 56 := by
    intro F G hf
    refine x_wp_ok ok0 [63] 6 ?_
    refine And.intro ⟨by decide, rfl, (x_nin (x_nin (x_nin (x_nin (x_nin (x_nin (x_nin n8 (show (20 : Nat) ≠ 13 by decide)) (show (20 : Nat) ≠ 14 by decide)) (show (20 : Nat) ≠ 15 by decide)) (show (20 : Nat) ≠ 16 by decide)) (show (20 : Nat) ≠ 17 by decide)) (show (20 : Nat) ≠ 18 by decide)) (show (20 : Nat) ≠ 19 by decide)), show (20 : Nat) < 1000 by decide, by decide⟩ ?_
    refine And.intro ⟨Nat.le_of_ble_eq_true rfl, Nat.le_of_ble_eq_true rfl⟩ ?_
    have e := s8 (va_up F 20 (fun _ => 0)) (va_up G 20 (fun _ => 0)) (fun c hc => ⟨by rw [x_un (by omega)]; exact (hf c hc).1, by rw [x_un (by omega)]; exact (hf c hc).2⟩)
    rw [← x_vu_up', ← x_row_a (a := 20) (ρ := x_HB4 R0 R1 R2 R3) (L := 12) (u := (va_up (va_up (va_up (va_up (va_up (va_up (va_up (fun _ => none) 8 (some 13)) 9 (some 14)) 10 (some 15)) 11 (some 16)) 12 (some 17)) 13 (some 18)) 14 (some 19))) rfl (by decide)] at e
    exact e
  have s6 : ∀ F G, (∀ c, c < 12 ∨ 21 < c → F c = f c ∧ G c = g c) → x_J 0 (d + 2) Po 47 [some (.ref 12)] [] (F, G, va_up (x_HB4 R0 R1 R2 R3) 12 (va_up (va_up (va_up (va_up (va_up (va_up (fun _ => none) 8 (some 13)) 9 (some 14)) 10 (some 15)) 11 (some 16)) 12 (some 17)) 13 (some 18)), dm ++ [13] ++ [14] ++ [15] ++ [16] ++ [17] ++ [18], 19) 6 36 := by
    intro F G hf
    refine x_wp_ok ok0 [55] 6 ?_
    refine And.intro ⟨by decide, rfl, (x_nin (x_nin (x_nin (x_nin (x_nin (x_nin n7 (show (19 : Nat) ≠ 13 by decide)) (show (19 : Nat) ≠ 14 by decide)) (show (19 : Nat) ≠ 15 by decide)) (show (19 : Nat) ≠ 16 by decide)) (show (19 : Nat) ≠ 17 by decide)) (show (19 : Nat) ≠ 18 by decide)), show (19 : Nat) < 1000 by decide, by decide⟩ ?_
    refine And.intro ⟨Nat.le_of_ble_eq_true rfl, Nat.le_of_ble_eq_true rfl⟩ ?_
    have e := s7 (va_up F 19 (fun _ => 0)) (va_up G 19 (fun _ => 0)) (fun c hc => ⟨by rw [x_un (by omega)]; exact (hf c hc).1, by rw [x_un (by omega)]; exact (hf c hc).2⟩)
    rw [← x_vu_up', ← x_row_a (a := 19) (ρ := x_HB4 R0 R1 R2 R3) (L := 12) (u := (va_up (va_up (va_up (va_up (va_up (va_up (fun _ => none) 8 (some 13)) 9 (some 14)) 10 (some 15)) 11 (some 16)) 12 (some 17)) 13 (some 18))) rfl (by decide)] at e
    exact e
  have s5 : ∀ F G, (∀ c, c < 12 ∨ 21 < c → F c = f c ∧ G c = g c) → x_J 0 (d + 2) Po 40 [some (.ref 12)] [] (F, G, va_up (x_HB4 R0 R1 R2 R3) 12 (va_up (va_up (va_up (va_up (va_up (fun _ => none) 8 (some 13)) 9 (some 14)) 10 (some 15)) 11 (some 16)) 12 (some 17)), dm ++ [13] ++ [14] ++ [15] ++ [16] ++ [17], 18) 5 31 := by
    intro F G hf
    refine x_wp_ok ok0 [47] 6 ?_
    refine And.intro ⟨by decide, rfl, (x_nin (x_nin (x_nin (x_nin (x_nin n6 (show (18 : Nat) ≠ 13 by decide)) (show (18 : Nat) ≠ 14 by decide)) (show (18 : Nat) ≠ 15 by decide)) (show (18 : Nat) ≠ 16 by decide)) (show (18 : Nat) ≠ 17 by decide)), show (18 : Nat) < 1000 by decide, by decide⟩ ?_
    refine And.intro ⟨Nat.le_of_ble_eq_true rfl, Nat.le_of_ble_eq_true rfl⟩ ?_
    have e := s6 (va_up F 18 (fun _ => 0)) (va_up G 18 (fun _ => 0)) (fun c hc => ⟨by rw [x_un (by omega)]; exact (hf c hc).1, by rw [x_un (by omega)]; exact (hf c hc).2⟩)
    rw [← x_vu_up', ← x_row_a (a := 18) (ρ := x_HB4 R0 R1 R2 R3) (L := 12) (u := (va_up (va_up (va_up (va_up (va_up (fun _ => none) 8 (some 13)) 9 (some 14)) 10 (some 15)) 11 (some 16)) 12 (some 17))) rfl (by decide)] at e
    exact e
  have s4 : ∀ F G, (∀ c, c < 12 ∨ 21 < c → F c = f c ∧ G c = g c) → x_J 0 (d + 2) Po 33 [some (.ref 12)] [] (F, G, va_up (x_HB4 R0 R1 R2 R3) 12 (va_up (va_up (va_up (va_up (fun _ => none) 8 (some 13)) 9 (some 14)) 10 (some 15)) 11 (some 16)), dm ++ [13] ++ [14] ++ [15] ++ [16], 17) 4 26 := by
    intro F G hf
    refine x_wp_ok ok0 [40] 6 ?_
    refine And.intro ⟨by decide, rfl, (x_nin (x_nin (x_nin (x_nin n5 (show (17 : Nat) ≠ 13 by decide)) (show (17 : Nat) ≠ 14 by decide)) (show (17 : Nat) ≠ 15 by decide)) (show (17 : Nat) ≠ 16 by decide)), show (17 : Nat) < 1000 by decide, by decide⟩ ?_
    refine And.intro ⟨Nat.le_of_ble_eq_true rfl, Nat.le_of_ble_eq_true rfl⟩ ?_
    have e := s5 (va_up F 17 (fun _ => 0)) (va_up G 17 (fun _ => 0)) (fun c hc => ⟨by rw [x_un (by omega)]; exact (hf c hc).1, by rw [x_un (by omega)]; exact (hf c hc).2⟩)
    rw [← x_vu_up', ← x_row_a (a := 17) (ρ := x_HB4 R0 R1 R2 R3) (L := 12) (u := (va_up (va_up (va_up (va_up (fun _ => none) 8 (some 13)) 9 (some 14)) 10 (some 15)) 11 (some 16))) rfl (by decide)] at e
    exact e
  have s3 : ∀ F G, (∀ c, c < 12 ∨ 21 < c → F c = f c ∧ G c = g c) → x_J 0 (d + 2) Po 26 [some (.ref 12)] [] (F, G, va_up (x_HB4 R0 R1 R2 R3) 12 (va_up (va_up (va_up (fun _ => none) 8 (some 13)) 9 (some 14)) 10 (some 15)), dm ++ [13] ++ [14] ++ [15], 16) 3 21 := by
    intro F G hf
    refine x_wp_ok ok0 [33] 6 ?_
    refine And.intro ⟨by decide, rfl, (x_nin (x_nin (x_nin n4 (show (16 : Nat) ≠ 13 by decide)) (show (16 : Nat) ≠ 14 by decide)) (show (16 : Nat) ≠ 15 by decide)), show (16 : Nat) < 1000 by decide, by decide⟩ ?_
    refine And.intro ⟨Nat.le_of_ble_eq_true rfl, Nat.le_of_ble_eq_true rfl⟩ ?_
    have e := s4 (va_up F 16 (fun _ => 0)) (va_up G 16 (fun _ => 0)) (fun c hc => ⟨by rw [x_un (by omega)]; exact (hf c hc).1, by rw [x_un (by omega)]; exact (hf c hc).2⟩)
    rw [← x_vu_up', ← x_row_a (a := 16) (ρ := x_HB4 R0 R1 R2 R3) (L := 12) (u := (va_up (va_up (va_up (fun _ => none) 8 (some 13)) 9 (some 14)) 10 (some 15))) rfl (by decide)] at e
    exact e
  have s2 : ∀ F G, (∀ c, c < 12 ∨ 21 < c → F c = f c ∧ G c = g c) → x_J 0 (d + 2) Po 19 [some (.ref 12)] [] (F, G, va_up (x_HB4 R0 R1 R2 R3) 12 (va_up (va_up (fun _ => none) 8 (some 13)) 9 (some 14)), dm ++ [13] ++ [14], 15) 2 17 := by
    intro F G hf
    refine x_wp_ok ok0 [26] 6 ?_
    refine And.intro ⟨by decide, rfl, (x_nin (x_nin n3 (show (15 : Nat) ≠ 13 by decide)) (show (15 : Nat) ≠ 14 by decide)), show (15 : Nat) < 1000 by decide, by decide⟩ ?_
    refine And.intro ⟨Nat.le_of_ble_eq_true rfl, Nat.le_of_ble_eq_true rfl⟩ ?_
    have e := s3 (va_up F 15 (fun _ => 0)) (va_up G 15 (fun _ => 0)) (fun c hc => ⟨by rw [x_un (by omega)]; exact (hf c hc).1, by rw [x_un (by omega)]; exact (hf c hc).2⟩)
    rw [← x_vu_up', ← x_row_a (a := 15) (ρ := x_HB4 R0 R1 R2 R3) (L := 12) (u := (va_up (va_up (fun _ => none) 8 (some 13)) 9 (some 14))) rfl (by decide)] at e
    exact e
  have s1 : ∀ F G, (∀ c, c < 12 ∨ 21 < c → F c = f c ∧ G c = g c) → x_J 0 (d + 2) Po 11 [some (.ref 12)] [] (F, G, va_up (x_HB4 R0 R1 R2 R3) 12 (va_up (fun _ => none) 8 (some 13)), dm ++ [13], 14) 1 3 := by
    intro F G hf
    refine x_wp_ok ok0 [19] 6 ?_
    refine And.intro ⟨by decide, rfl, (x_nin n2 (show (14 : Nat) ≠ 13 by decide)), show (14 : Nat) < 1000 by decide, by decide⟩ ?_
    refine And.intro ⟨Nat.le_of_ble_eq_true rfl, Nat.le_of_ble_eq_true rfl⟩ ?_
    have e := s2 (va_up F 14 (fun _ => 0)) (va_up G 14 (fun _ => 0)) (fun c hc => ⟨by rw [x_un (by omega)]; exact (hf c hc).1, by rw [x_un (by omega)]; exact (hf c hc).2⟩)
    rw [← x_vu_up', ← x_row_a (a := 14) (ρ := x_HB4 R0 R1 R2 R3) (L := 12) (u := (va_up (fun _ => none) 8 (some 13))) rfl (by decide)] at e
    exact e
  have s0 : ∀ F G, (∀ c, c < 12 ∨ 21 < c → F c = f c ∧ G c = g c) → x_J 0 (d + 2) Po 4 [some (.ref 12)] [] (F, G, va_up (x_HB4 R0 R1 R2 R3) 12 (fun _ => none), dm, 13) 0 0 := by
    intro F G hf
    refine x_wp_ok ok0 [11] 6 ?_
    refine And.intro ⟨by decide, rfl, n1, show (13 : Nat) < 1000 by decide, by decide⟩ ?_
    refine And.intro ⟨Nat.le_of_ble_eq_true rfl, Nat.le_of_ble_eq_true rfl⟩ ?_
    have e := s1 (va_up F 13 (fun _ => 0)) (va_up G 13 (fun _ => 0)) (fun c hc => ⟨by rw [x_un (by omega)]; exact (hf c hc).1, by rw [x_un (by omega)]; exact (hf c hc).2⟩)
    rw [← x_vu_up', ← x_row_a (a := 13) (ρ := x_HB4 R0 R1 R2 R3) (L := 12) (u := (fun _ => none)) rfl (by decide)] at e
    exact e
  refine x_Ct_w (by decide) (Nat.le_of_ble_eq_true rfl) ok0 [4] 6 ?_
  exact s0 f g (fun c _ => ⟨rfl, rfl⟩)
theorem c_clrI_22 : x_Ct 1 d [.ref 22] (f, g, x_HB4 R0 R1 R2 R3, dm, n) (fun q h' => q = none ∧ ∃ F G, h' = (F, G, x_HB4 R0 R1 R2 R3, dm, n) ∧ x_CL0 f g 22 F G) := by
  obtain ⟨Po, hPo⟩ : ∃ Po : Option Value → xH → Prop, Po = (fun q h' => q = none ∧ ∃ F G, h' = (F, G, x_HB4 R0 R1 R2 R3, dm, n) ∧ x_CL0 f g 22 F G) := ⟨_, rfl⟩
  rw [← hPo]
  have loop2 : ∀ m k F G, k + m = 25 → (F 22 0 = 0 ∧ F 22 1 = 0 ∧ F 22 2 = 0 ∧ F 22 3 = 0 ∧ F 22 4 = 1 ∧ F 22 5 = 0) → (F 23 0 = 500 ∧ F 23 1 = 3 ∧ F 23 2 = 0) → (G 22 6 = 0 ∧ G 22 7 = 0) → (∀ j, j < 20 → F 29 j = 0 ∧ F 30 j = 0) → (∀ j, j < k → F 31 j = 0) → (∀ c, c ≠ 22 → c ≠ 23 → c ≠ 29 → c ≠ 30 → c ≠ 31 → F c = f c) → (∀ c, c ≠ 22 → G c = g c) → x_J 1 d Po 96 [some (.ref 22), some (.int (nI k))] [] (F, G, x_HB4 R0 R1 R2 R3, dm, n) 0 0 := by
    intro m
    induction m with
    | zero =>
      intro k F G hk h1 h2 h3 h4 h5 h6 h7
      obtain rfl : k = 25 := by omega
      refine x_wp_ok ok1 [65, 96] 6 ?_
      refine And.intro (fun _ => ?_) (fun c => absurd (by decide) c)
      refine And.intro ?_ ⟨trivial, Nat.le_refl _, Nat.le_refl _⟩
      rw [hPo]
      exact ⟨rfl, F, G, rfl, h1, h2, h3, h4, h5, h6, h7⟩
    | succ m ih =>
      intro k F G hk h1 h2 h3 h4 h5 h6 h7
      refine x_wp_ok ok1 [65, 96] 6 ?_
      refine And.intro (fun c => absurd (show nI 25 ≤ nI k from c) (nI_ge (by omega) (by decide))) (fun _ => ?_)
      refine And.intro (x_ix_nI (by omega) (by omega)) ?_
      rw [nI_clamp (by omega)]
      have e := ih (k + 1) (x_up F 31 k 0) G (by omega) h1 h2 h3 h4 (fun j hj => by
        by_cases q : j = k
        · rw [q, x_up_s]
        · rw [x_up_j q]
          exact h5 j (by omega)) (fun c q1 q2 q3 q4 q5 => (x_up_k q5).trans (h6 c q1 q2 q3 q4 q5)) h7
      rw [← nI_1o] at e
      exact e
  have loop1 : ∀ m k F G, k + m = 20 → (F 22 0 = 0 ∧ F 22 1 = 0 ∧ F 22 2 = 0 ∧ F 22 3 = 0 ∧ F 22 4 = 1 ∧ F 22 5 = 0) → (F 23 0 = 500 ∧ F 23 1 = 3 ∧ F 23 2 = 0) → (G 22 6 = 0 ∧ G 22 7 = 0) → (∀ j, j < k → F 29 j = 0 ∧ F 30 j = 0) → (∀ c, c ≠ 22 → c ≠ 23 → c ≠ 29 → c ≠ 30 → c ≠ 31 → F c = f c) → (∀ c, c ≠ 22 → G c = g c) → x_J 1 d Po 65 [some (.ref 22), some (.int (nI k))] [] (F, G, x_HB4 R0 R1 R2 R3, dm, n) 0 0 := by
    intro m
    induction m with
    | zero =>
      intro k F G hk h1 h2 h3 h4 h6 h7
      obtain rfl : k = 20 := by omega
      refine x_wp_ok ok1 [65, 96] 6 ?_
      refine And.intro (fun _ => ?_) (fun c => absurd (by decide) c)
      exact loop2 25 0 F G (by decide) h1 h2 h3 h4 (fun j q => absurd q (Nat.not_lt_zero _)) h6 h7
    | succ m ih =>
      intro k F G hk h1 h2 h3 h4 h6 h7
      refine x_wp_ok ok1 [65, 96] 6 ?_
      refine And.intro (fun c => absurd (show nI 20 ≤ nI k from c) (nI_ge (by omega) (by decide))) (fun _ => ?_)
      refine And.intro (x_ix_nI (by omega) (by omega)) ?_
      rw [nI_clamp (by omega)]
      refine And.intro (x_ix_nI (by omega) (by omega)) ?_
      rw [nI_clamp (by omega)]
      have e := ih (k + 1) (x_up (x_up F 29 k 0) 30 k 0) G (by omega) h1 h2 h3 (fun j hj => by
        by_cases q : j = k
        · rw [q]
          exact ⟨(congrFun (x_up_k (by decide)) _).trans (x_up_s _ _ _ _), x_up_s _ _ _ _⟩
        · have := h4 j (by omega)
          exact ⟨(congrFun (x_up_k (by decide)) _).trans ((x_up_j q).trans this.1), (x_up_j q).trans this.2⟩) (fun c q1 q2 q3 q4 q5 => (x_up_k q4).trans ((x_up_k q3).trans (h6 c q1 q2 q3 q4 q5))) h7
      rw [← nI_1o] at e
      exact e
  refine x_Ct_w (by decide) (Nat.le_of_ble_eq_true rfl) ok1 [65, 96] 6 ?_
  refine And.intro (x_ix_nI (j := 0) (by decide) (by decide)) ?_
  refine And.intro (x_ix_nI (j := 1) (by decide) (by decide)) ?_
  refine And.intro (x_ix_nI (j := 2) (by decide) (by decide)) ?_
  refine loop1 20 0 _ _ (by decide) ⟨rfl, rfl, rfl, rfl, rfl, rfl⟩ ⟨rfl, rfl, rfl⟩ ⟨rfl, rfl⟩ (fun j q => absurd q (Nat.not_lt_zero _)) (fun c q1 q2 q3 q4 q5 => ?_) (fun c q => ?_)
  · exact (x_up_k q1).trans ((x_up_k q1).trans ((x_up_k q1).trans ((x_up_k q2).trans ((x_up_k q2).trans ((x_up_k q2).trans ((x_up_k q1).trans ((x_up_k q1).trans (x_up_k q1))))))))
  · exact (x_up_k q).trans (x_up_k q)
theorem c_initLand_22 (n1 : 23 ∉ dm) (n2 : 24 ∉ dm) (n3 : 25 ∉ dm) (n4 : 26 ∉ dm) (n5 : 27 ∉ dm) (n6 : 28 ∉ dm) (n7 : 29 ∉ dm) (n8 : 30 ∉ dm) (n9 : 31 ∉ dm) : x_Ct 0 (d + 2) [.ref 22] (f, g, va_up (x_HB4 R0 R1 R2 R3) 22 (fun _ => none), dm, 23) (fun z h' => z = none ∧ ∃ F G, h' = (F, G, x_HB4 R0 R1 R2 R3, dm ++ [23] ++ [24] ++ [25] ++ [26] ++ [27] ++ [28] ++ [29] ++ [30] ++ [31], 32) ∧ ∃ F0 G0, x_CL0 F0 G0 22 F G ∧ ∀ c, c < 22 ∨ 31 < c → F0 c = f c ∧ G0 c = g c) := by
  obtain ⟨Po, hPo⟩ : ∃ Po : Option Value → xH → Prop, Po = (fun z h' => z = none ∧ ∃ F G, h' = (F, G, x_HB4 R0 R1 R2 R3, dm ++ [23] ++ [24] ++ [25] ++ [26] ++ [27] ++ [28] ++ [29] ++ [30] ++ [31], 32) ∧ ∃ F0 G0, x_CL0 F0 G0 22 F G ∧ ∀ c, c < 22 ∨ 31 < c → F0 c = f c ∧ G0 c = g c) := ⟨_, rfl⟩
  rw [← hPo]
  have hrow : (va_up (va_up (va_up (va_up (va_up (va_up (va_up (va_up (va_up (fun _ => none) 8 (some 23)) 9 (some 24)) 10 (some 25)) 11 (some 26)) 12 (some 27)) 13 (some 28)) 14 (some 29)) 15 (some 30)) 16 (some 31)) = x_HB4 R0 R1 R2 R3 22 := by
    funext b
    show _ = if 8 ≤ b ∧ b ≤ 16 then some (22 + (b - 7)) else none
    by_cases b16 : b = 16
    · subst b16
      rfl
    rw [x_un b16]
    by_cases b15 : b = 15
    · subst b15
      rfl
    rw [x_un b15]
    by_cases b14 : b = 14
    · subst b14
      rfl
    rw [x_un b14]
    by_cases b13 : b = 13
    · subst b13
      rfl
    rw [x_un b13]
    by_cases b12 : b = 12
    · subst b12
      rfl
    rw [x_un b12]
    by_cases b11 : b = 11
    · subst b11
      rfl
    rw [x_un b11]
    by_cases b10 : b = 10
    · subst b10
      rfl
    rw [x_un b10]
    by_cases b9 : b = 9
    · subst b9
      rfl
    rw [x_un b9]
    by_cases b8 : b = 8
    · subst b8
      rfl
    rw [x_un b8]
    rw [if_neg (by omega)]
  have s9 : ∀ F G, (∀ c, c < 22 ∨ 31 < c → F c = f c ∧ G c = g c) → x_J 0 (d + 2) Po 71 [some (.ref 22)] [] (F, G, va_up (x_HB4 R0 R1 R2 R3) 22 (va_up (va_up (va_up (va_up (va_up (va_up (va_up (va_up (va_up (fun _ => none) 8 (some 23)) 9 (some 24)) 10 (some 25)) 11 (some 26)) 12 (some 27)) 13 (some 28)) 14 (some 29)) 15 (some 30)) 16 (some 31)), dm ++ [23] ++ [24] ++ [25] ++ [26] ++ [27] ++ [28] ++ [29] ++ [30] ++ [31], 32) 9 101 := by
    intro F G hf
    rw [x_row_f hrow]
    refine x_wp_ok ok0 [] 6 ?_
    refine Exists.intro _ (And.intro (c_clrI_22 (R0 := R0) (R1 := R1) (R2 := R2) (R3 := R3)) (And.intro (And.intro (Nat.le_of_ble_eq_true rfl) (Nat.le_of_ble_eq_true rfl)) (fun zq h' hpo => ?_)))
    obtain ⟨rfl, F2, G2, rfl, w⟩ := hpo
    refine And.intro ?_ ⟨trivial, Nat.le_of_ble_eq_true rfl, Nat.le_of_ble_eq_true rfl⟩
    rw [hPo]
    exact ⟨rfl, F2, G2, rfl, F, G, w, hf⟩
  have s8 : ∀ F G, (∀ c, c < 22 ∨ 31 < c → F c = f c ∧ G c = g c) → x_J 0 (d + 2) Po 63 [some (.ref 22)] [] (F, G, va_up (x_HB4 R0 R1 R2 R3) 22 (va_up (va_up (va_up (va_up (va_up (va_up (va_up (va_up (fun _ => none) 8 (some 23)) 9 (some 24)) 10 (some 25)) 11 (some 26)) 12 (some 27)) 13 (some 28)) 14 (some 29)) 15 (some 30)), dm ++ [23] ++ [24] ++ [25] ++ [26] ++ [27] ++ [28] ++ [29] ++ [30], 31) 8 76 := by
    intro F G hf
    refine x_wp_ok ok0 [71] 6 ?_
    refine And.intro ⟨by decide, rfl, (x_nin (x_nin (x_nin (x_nin (x_nin (x_nin (x_nin (x_nin n9 (show (31 : Nat) ≠ 23 by decide)) (show (31 : Nat) ≠ 24 by decide)) (show (31 : Nat) ≠ 25 by decide)) (show (31 : Nat) ≠ 26 by decide)) (show (31 : Nat) ≠ 27 by decide)) (show (31 : Nat) ≠ 28 by decide)) (show (31 : Nat) ≠ 29 by decide)) (show (31 : Nat) ≠ 30 by decide)), show (31 : Nat) < 1000 by decide, by decide⟩ ?_
    refine And.intro ⟨Nat.le_of_ble_eq_true rfl, Nat.le_of_ble_eq_true rfl⟩ ?_
    have e := s9 (va_up F 31 (fun _ => 0)) (va_up G 31 (fun _ => 0)) (fun c hc => ⟨by rw [x_un (by omega)]; exact (hf c hc).1, by rw [x_un (by omega)]; exact (hf c hc).2⟩)
    rw [← x_vu_up', ← x_row_a (a := 31) (ρ := x_HB4 R0 R1 R2 R3) (L := 22) (u := (va_up (va_up (va_up (va_up (va_up (va_up (va_up (va_up (fun _ => none) 8 (some 23)) 9 (some 24)) 10 (some 25)) 11 (some 26)) 12 (some 27)) 13 (some 28)) 14 (some 29)) 15 (some 30))) rfl (by decide)] at e
    exact e
  have s7 : ∀ F G, (∀ c, c < 22 ∨ 31 < c → F c = f c ∧ G c = g c) → x_J 0 (d + 2) Po 55 [some (.ref 22)] [] (F, G, va_up (x_HB4 R0 R1 R2 R3) 22 (va_up (va_up (va_up (va_up (va_up (va_up (va_up (fun _ => none) 8 (some 23)) 9 (some 24)) 10 (some 25)) 11 (some 26)) 12 (some 27)) 13 (some 28)) 14 (some 29)), dm ++ [23] ++ [24] ++ [25] ++ [26] ++ [27] ++ [28] ++ [29], 30) 7 56 := by
    intro F G hf
    refine x_wp_ok ok0 [63] 6 ?_
    refine And.intro ⟨by decide, rfl, (x_nin (x_nin (x_nin (x_nin (x_nin (x_nin (x_nin n8 (show (30 : Nat) ≠ 23 by decide)) (show (30 : Nat) ≠ 24 by decide)) (show (30 : Nat) ≠ 25 by decide)) (show (30 : Nat) ≠ 26 by decide)) (show (30 : Nat) ≠ 27 by decide)) (show (30 : Nat) ≠ 28 by decide)) (show (30 : Nat) ≠ 29 by decide)), show (30 : Nat) < 1000 by decide, by decide⟩ ?_
    refine And.intro ⟨Nat.le_of_ble_eq_true rfl, Nat.le_of_ble_eq_true rfl⟩ ?_
    have e := s8 (va_up F 30 (fun _ => 0)) (va_up G 30 (fun _ => 0)) (fun c hc => ⟨by rw [x_un (by omega)]; exact (hf c hc).1, by rw [x_un (by omega)]; exact (hf c hc).2⟩)
    rw [← x_vu_up', ← x_row_a (a := 30) (ρ := x_HB4 R0 R1 R2 R3) (L := 22) (u := (va_up (va_up (va_up (va_up (va_up (va_up (va_up (fun _ => none) 8 (some 23)) 9 (some 24)) 10 (some 25)) 11 (some 26)) 12 (some 27)) 13 (some 28)) 14 (some 29))) rfl (by decide)] at e
    exact e
  have s6 : ∀ F G, (∀ c, c < 22 ∨ 31 < c → F c = f c ∧ G c = g c) → x_J 0 (d + 2) Po 47 [some (.ref 22)] [] (F, G, va_up (x_HB4 R0 R1 R2 R3) 22 (va_up (va_up (va_up (va_up (va_up (va_up (fun _ => none) 8 (some 23)) 9 (some 24)) 10 (some 25)) 11 (some 26)) 12 (some 27)) 13 (some 28)), dm ++ [23] ++ [24] ++ [25] ++ [26] ++ [27] ++ [28], 29) 6 36 := by
    intro F G hf
    refine x_wp_ok ok0 [55] 6 ?_
    refine And.intro ⟨by decide, rfl, (x_nin (x_nin (x_nin (x_nin (x_nin (x_nin n7 (show (29 : Nat) ≠ 23 by decide)) (show (29 : Nat) ≠ 24 by decide)) (show (29 : Nat) ≠ 25 by decide)) (show (29 : Nat) ≠ 26 by decide)) (show (29 : Nat) ≠ 27 by decide)) (show (29 : Nat) ≠ 28 by decide)), show (29 : Nat) < 1000 by decide, by decide⟩ ?_
    refine And.intro ⟨Nat.le_of_ble_eq_true rfl, Nat.le_of_ble_eq_true rfl⟩ ?_
    have e := s7 (va_up F 29 (fun _ => 0)) (va_up G 29 (fun _ => 0)) (fun c hc => ⟨by rw [x_un (by omega)]; exact (hf c hc).1, by rw [x_un (by omega)]; exact (hf c hc).2⟩)
    rw [← x_vu_up', ← x_row_a (a := 29) (ρ := x_HB4 R0 R1 R2 R3) (L := 22) (u := (va_up (va_up (va_up (va_up (va_up (va_up (fun _ => none) 8 (some 23)) 9 (some 24)) 10 (some 25)) 11 (some 26)) 12 (some 27)) 13 (some 28))) rfl (by decide)] at e
    exact e
  have s5 : ∀ F G, (∀ c, c < 22 ∨ 31 < c → F c = f c ∧ G c = g c) → x_J 0 (d + 2) Po 40 [some (.ref 22)] [] (F, G, va_up (x_HB4 R0 R1 R2 R3) 22 (va_up (va_up (va_up (va_up (va_up (fun _ => none) 8 (some 23)) 9 (some 24)) 10 (some 25)) 11 (some 26)) 12 (some 27)), dm ++ [23] ++ [24] ++ [25] ++ [26] ++ [27], 28) 5 31 := by
    intro F G hf
    refine x_wp_ok ok0 [47] 6 ?_
    refine And.intro ⟨by decide, rfl, (x_nin (x_nin (x_nin (x_nin (x_nin n6 (show (28 : Nat) ≠ 23 by decide)) (show (28 : Nat) ≠ 24 by decide)) (show (28 : Nat) ≠ 25 by decide)) (show (28 : Nat) ≠ 26 by decide)) (show (28 : Nat) ≠ 27 by decide)), show (28 : Nat) < 1000 by decide, by decide⟩ ?_
    refine And.intro ⟨Nat.le_of_ble_eq_true rfl, Nat.le_of_ble_eq_true rfl⟩ ?_
    have e := s6 (va_up F 28 (fun _ => 0)) (va_up G 28 (fun _ => 0)) (fun c hc => ⟨by rw [x_un (by omega)]; exact (hf c hc).1, by rw [x_un (by omega)]; exact (hf c hc).2⟩)
    rw [← x_vu_up', ← x_row_a (a := 28) (ρ := x_HB4 R0 R1 R2 R3) (L := 22) (u := (va_up (va_up (va_up (va_up (va_up (fun _ => none) 8 (some 23)) 9 (some 24)) 10 (some 25)) 11 (some 26)) 12 (some 27))) rfl (by decide)] at e
    exact e
  have s4 : ∀ F G, (∀ c, c < 22 ∨ 31 < c → F c = f c ∧ G c = g c) → x_J 0 (d + 2) Po 33 [some (.ref 22)] [] (F, G, va_up (x_HB4 R0 R1 R2 R3) 22 (va_up (va_up (va_up (va_up (fun _ => none) 8 (some 23)) 9 (some 24)) 10 (some 25)) 11 (some 26)), dm ++ [23] ++ [24] ++ [25] ++ [26], 27) 4 26 := by
    intro F G hf
    refine x_wp_ok ok0 [40] 6 ?_
    refine And.intro ⟨by decide, rfl, (x_nin (x_nin (x_nin (x_nin n5 (show (27 : Nat) ≠ 23 by decide)) (show (27 : Nat) ≠ 24 by decide)) (show (27 : Nat) ≠ 25 by decide)) (show (27 : Nat) ≠ 26 by decide)), show (27 : Nat) < 1000 by decide, by decide⟩ ?_
    refine And.intro ⟨Nat.le_of_ble_eq_true rfl, Nat.le_of_ble_eq_true rfl⟩ ?_
    have e := s5 (va_up F 27 (fun _ => 0)) (va_up G 27 (fun _ => 0)) (fun c hc => ⟨by rw [x_un (by omega)]; exact (hf c hc).1, by rw [x_un (by omega)]; exact (hf c hc).2⟩)
    rw [← x_vu_up', ← x_row_a (a := 27) (ρ := x_HB4 R0 R1 R2 R3) (L := 22) (u := (va_up (va_up (va_up (va_up (fun _ => none) 8 (some 23)) 9 (some 24)) 10 (some 25)) 11 (some 26))) rfl (by decide)] at e
    exact e
  have s3 : ∀ F G, (∀ c, c < 22 ∨ 31 < c → F c = f c ∧ G c = g c) → x_J 0 (d + 2) Po 26 [some (.ref 22)] [] (F, G, va_up (x_HB4 R0 R1 R2 R3) 22 (va_up (va_up (va_up (fun _ => none) 8 (some 23)) 9 (some 24)) 10 (some 25)), dm ++ [23] ++ [24] ++ [25], 26) 3 21 := by
    intro F G hf
    refine x_wp_ok ok0 [33] 6 ?_
    refine And.intro ⟨by decide, rfl, (x_nin (x_nin (x_nin n4 (show (26 : Nat) ≠ 23 by decide)) (show (26 : Nat) ≠ 24 by decide)) (show (26 : Nat) ≠ 25 by decide)), show (26 : Nat) < 1000 by decide, by decide⟩ ?_
    refine And.intro ⟨Nat.le_of_ble_eq_true rfl, Nat.le_of_ble_eq_true rfl⟩ ?_
    have e := s4 (va_up F 26 (fun _ => 0)) (va_up G 26 (fun _ => 0)) (fun c hc => ⟨by rw [x_un (by omega)]; exact (hf c hc).1, by rw [x_un (by omega)]; exact (hf c hc).2⟩)
    rw [← x_vu_up', ← x_row_a (a := 26) (ρ := x_HB4 R0 R1 R2 R3) (L := 22) (u := (va_up (va_up (va_up (fun _ => none) 8 (some 23)) 9 (some 24)) 10 (some 25))) rfl (by decide)] at e
    exact e
  have s2 : ∀ F G, (∀ c, c < 22 ∨ 31 < c → F c = f c ∧ G c = g c) → x_J 0 (d + 2) Po 19 [some (.ref 22)] [] (F, G, va_up (x_HB4 R0 R1 R2 R3) 22 (va_up (va_up (fun _ => none) 8 (some 23)) 9 (some 24)), dm ++ [23] ++ [24], 25) 2 17 := by
    intro F G hf
    refine x_wp_ok ok0 [26] 6 ?_
    refine And.intro ⟨by decide, rfl, (x_nin (x_nin n3 (show (25 : Nat) ≠ 23 by decide)) (show (25 : Nat) ≠ 24 by decide)), show (25 : Nat) < 1000 by decide, by decide⟩ ?_
    refine And.intro ⟨Nat.le_of_ble_eq_true rfl, Nat.le_of_ble_eq_true rfl⟩ ?_
    have e := s3 (va_up F 25 (fun _ => 0)) (va_up G 25 (fun _ => 0)) (fun c hc => ⟨by rw [x_un (by omega)]; exact (hf c hc).1, by rw [x_un (by omega)]; exact (hf c hc).2⟩)
    rw [← x_vu_up', ← x_row_a (a := 25) (ρ := x_HB4 R0 R1 R2 R3) (L := 22) (u := (va_up (va_up (fun _ => none) 8 (some 23)) 9 (some 24))) rfl (by decide)] at e
    exact e
  have s1 : ∀ F G, (∀ c, c < 22 ∨ 31 < c → F c = f c ∧ G c = g c) → x_J 0 (d + 2) Po 11 [some (.ref 22)] [] (F, G, va_up (x_HB4 R0 R1 R2 R3) 22 (va_up (fun _ => none) 8 (some 23)), dm ++ [23], 24) 1 3 := by
    intro F G hf
    refine x_wp_ok ok0 [19] 6 ?_
    refine And.intro ⟨by decide, rfl, (x_nin n2 (show (24 : Nat) ≠ 23 by decide)), show (24 : Nat) < 1000 by decide, by decide⟩ ?_
    refine And.intro ⟨Nat.le_of_ble_eq_true rfl, Nat.le_of_ble_eq_true rfl⟩ ?_
    have e := s2 (va_up F 24 (fun _ => 0)) (va_up G 24 (fun _ => 0)) (fun c hc => ⟨by rw [x_un (by omega)]; exact (hf c hc).1, by rw [x_un (by omega)]; exact (hf c hc).2⟩)
    rw [← x_vu_up', ← x_row_a (a := 24) (ρ := x_HB4 R0 R1 R2 R3) (L := 22) (u := (va_up (fun _ => none) 8 (some 23))) rfl (by decide)] at e
    exact e
  have s0 : ∀ F G, (∀ c, c < 22 ∨ 31 < c → F c = f c ∧ G c = g c) → x_J 0 (d + 2) Po 4 [some (.ref 22)] [] (F, G, va_up (x_HB4 R0 R1 R2 R3) 22 (fun _ => none), dm, 23) 0 0 := by
    intro F G hf
    refine x_wp_ok ok0 [11] 6 ?_
    refine And.intro ⟨by decide, rfl, n1, show (23 : Nat) < 1000 by decide, by decide⟩ ?_
    refine And.intro ⟨Nat.le_of_ble_eq_true rfl, Nat.le_of_ble_eq_true rfl⟩ ?_
    have e := s1 (va_up F 23 (fun _ => 0)) (va_up G 23 (fun _ => 0)) (fun c hc => ⟨by rw [x_un (by omega)]; exact (hf c hc).1, by rw [x_un (by omega)]; exact (hf c hc).2⟩)
    rw [← x_vu_up', ← x_row_a (a := 23) (ρ := x_HB4 R0 R1 R2 R3) (L := 22) (u := (fun _ => none)) rfl (by decide)] at e
    exact e
  refine x_Ct_w (by decide) (Nat.le_of_ble_eq_true rfl) ok0 [4] 6 ?_
  exact s0 f g (fun c _ => ⟨rfl, rfl⟩)
theorem c_clrI_48 : x_Ct 1 d [.ref 48] (f, g, x_HB4 R0 R1 R2 R3, dm, n) (fun q h' => q = none ∧ ∃ F G, h' = (F, G, x_HB4 R0 R1 R2 R3, dm, n) ∧ x_CL0 f g 48 F G) := by
  obtain ⟨Po, hPo⟩ : ∃ Po : Option Value → xH → Prop, Po = (fun q h' => q = none ∧ ∃ F G, h' = (F, G, x_HB4 R0 R1 R2 R3, dm, n) ∧ x_CL0 f g 48 F G) := ⟨_, rfl⟩
  rw [← hPo]
  have loop2 : ∀ m k F G, k + m = 25 → (F 48 0 = 0 ∧ F 48 1 = 0 ∧ F 48 2 = 0 ∧ F 48 3 = 0 ∧ F 48 4 = 1 ∧ F 48 5 = 0) → (F 49 0 = 500 ∧ F 49 1 = 3 ∧ F 49 2 = 0) → (G 48 6 = 0 ∧ G 48 7 = 0) → (∀ j, j < 20 → F 55 j = 0 ∧ F 56 j = 0) → (∀ j, j < k → F 57 j = 0) → (∀ c, c ≠ 48 → c ≠ 49 → c ≠ 55 → c ≠ 56 → c ≠ 57 → F c = f c) → (∀ c, c ≠ 48 → G c = g c) → x_J 1 d Po 96 [some (.ref 48), some (.int (nI k))] [] (F, G, x_HB4 R0 R1 R2 R3, dm, n) 0 0 := by
    intro m
    induction m with
    | zero =>
      intro k F G hk h1 h2 h3 h4 h5 h6 h7
      obtain rfl : k = 25 := by omega
      refine x_wp_ok ok1 [65, 96] 6 ?_
      refine And.intro (fun _ => ?_) (fun c => absurd (by decide) c)
      refine And.intro ?_ ⟨trivial, Nat.le_refl _, Nat.le_refl _⟩
      rw [hPo]
      exact ⟨rfl, F, G, rfl, h1, h2, h3, h4, h5, h6, h7⟩
    | succ m ih =>
      intro k F G hk h1 h2 h3 h4 h5 h6 h7
      refine x_wp_ok ok1 [65, 96] 6 ?_
      refine And.intro (fun c => absurd (show nI 25 ≤ nI k from c) (nI_ge (by omega) (by decide))) (fun _ => ?_)
      refine And.intro (x_ix_nI (by omega) (by omega)) ?_
      rw [nI_clamp (by omega)]
      have e := ih (k + 1) (x_up F 57 k 0) G (by omega) h1 h2 h3 h4 (fun j hj => by
        by_cases q : j = k
        · rw [q, x_up_s]
        · rw [x_up_j q]
          exact h5 j (by omega)) (fun c q1 q2 q3 q4 q5 => (x_up_k q5).trans (h6 c q1 q2 q3 q4 q5)) h7
      rw [← nI_1o] at e
      exact e
  have loop1 : ∀ m k F G, k + m = 20 → (F 48 0 = 0 ∧ F 48 1 = 0 ∧ F 48 2 = 0 ∧ F 48 3 = 0 ∧ F 48 4 = 1 ∧ F 48 5 = 0) → (F 49 0 = 500 ∧ F 49 1 = 3 ∧ F 49 2 = 0) → (G 48 6 = 0 ∧ G 48 7 = 0) → (∀ j, j < k → F 55 j = 0 ∧ F 56 j = 0) → (∀ c, c ≠ 48 → c ≠ 49 → c ≠ 55 → c ≠ 56 → c ≠ 57 → F c = f c) → (∀ c, c ≠ 48 → G c = g c) → x_J 1 d Po 65 [some (.ref 48), some (.int (nI k))] [] (F, G, x_HB4 R0 R1 R2 R3, dm, n) 0 0 := by
    intro m
    induction m with
    | zero =>
      intro k F G hk h1 h2 h3 h4 h6 h7
      obtain rfl : k = 20 := by omega
      refine x_wp_ok ok1 [65, 96] 6 ?_
      refine And.intro (fun _ => ?_) (fun c => absurd (by decide) c)
      exact loop2 25 0 F G (by decide) h1 h2 h3 h4 (fun j q => absurd q (Nat.not_lt_zero _)) h6 h7
    | succ m ih =>
      intro k F G hk h1 h2 h3 h4 h6 h7
      refine x_wp_ok ok1 [65, 96] 6 ?_
      refine And.intro (fun c => absurd (show nI 20 ≤ nI k from c) (nI_ge (by omega) (by decide))) (fun _ => ?_)
      refine And.intro (x_ix_nI (by omega) (by omega)) ?_
      rw [nI_clamp (by omega)]
      refine And.intro (x_ix_nI (by omega) (by omega)) ?_
      rw [nI_clamp (by omega)]
      have e := ih (k + 1) (x_up (x_up F 55 k 0) 56 k 0) G (by omega) h1 h2 h3 (fun j hj => by
        by_cases q : j = k
        · rw [q]
          exact ⟨(congrFun (x_up_k (by decide)) _).trans (x_up_s _ _ _ _), x_up_s _ _ _ _⟩
        · have := h4 j (by omega)
          exact ⟨(congrFun (x_up_k (by decide)) _).trans ((x_up_j q).trans this.1), (x_up_j q).trans this.2⟩) (fun c q1 q2 q3 q4 q5 => (x_up_k q4).trans ((x_up_k q3).trans (h6 c q1 q2 q3 q4 q5))) h7
      rw [← nI_1o] at e
      exact e
  refine x_Ct_w (by decide) (Nat.le_of_ble_eq_true rfl) ok1 [65, 96] 6 ?_
  refine And.intro (x_ix_nI (j := 0) (by decide) (by decide)) ?_
  refine And.intro (x_ix_nI (j := 1) (by decide) (by decide)) ?_
  refine And.intro (x_ix_nI (j := 2) (by decide) (by decide)) ?_
  refine loop1 20 0 _ _ (by decide) ⟨rfl, rfl, rfl, rfl, rfl, rfl⟩ ⟨rfl, rfl, rfl⟩ ⟨rfl, rfl⟩ (fun j q => absurd q (Nat.not_lt_zero _)) (fun c q1 q2 q3 q4 q5 => ?_) (fun c q => ?_)
  · exact (x_up_k q1).trans ((x_up_k q1).trans ((x_up_k q1).trans ((x_up_k q2).trans ((x_up_k q2).trans ((x_up_k q2).trans ((x_up_k q1).trans ((x_up_k q1).trans (x_up_k q1))))))))
  · exact (x_up_k q).trans (x_up_k q)
theorem c_initLand_48 (n1 : 49 ∉ dm) (n2 : 50 ∉ dm) (n3 : 51 ∉ dm) (n4 : 52 ∉ dm) (n5 : 53 ∉ dm) (n6 : 54 ∉ dm) (n7 : 55 ∉ dm) (n8 : 56 ∉ dm) (n9 : 57 ∉ dm) : x_Ct 0 (d + 2) [.ref 48] (f, g, va_up (x_HB4 R0 R1 R2 R3) 48 (fun _ => none), dm, 49) (fun z h' => z = none ∧ ∃ F G, h' = (F, G, x_HB4 R0 R1 R2 R3, dm ++ [49] ++ [50] ++ [51] ++ [52] ++ [53] ++ [54] ++ [55] ++ [56] ++ [57], 58) ∧ ∃ F0 G0, x_CL0 F0 G0 48 F G ∧ ∀ c, c < 48 ∨ 57 < c → F0 c = f c ∧ G0 c = g c) := by
  obtain ⟨Po, hPo⟩ : ∃ Po : Option Value → xH → Prop, Po = (fun z h' => z = none ∧ ∃ F G, h' = (F, G, x_HB4 R0 R1 R2 R3, dm ++ [49] ++ [50] ++ [51] ++ [52] ++ [53] ++ [54] ++ [55] ++ [56] ++ [57], 58) ∧ ∃ F0 G0, x_CL0 F0 G0 48 F G ∧ ∀ c, c < 48 ∨ 57 < c → F0 c = f c ∧ G0 c = g c) := ⟨_, rfl⟩
  rw [← hPo]
  have hrow : (va_up (va_up (va_up (va_up (va_up (va_up (va_up (va_up (va_up (fun _ => none) 8 (some 49)) 9 (some 50)) 10 (some 51)) 11 (some 52)) 12 (some 53)) 13 (some 54)) 14 (some 55)) 15 (some 56)) 16 (some 57)) = x_HB4 R0 R1 R2 R3 48 := by
    funext b
    show _ = if 8 ≤ b ∧ b ≤ 16 then some (48 + (b - 7)) else none
    by_cases b16 : b = 16
    · subst b16
      rfl
    rw [x_un b16]
    by_cases b15 : b = 15
    · subst b15
      rfl
    rw [x_un b15]
    by_cases b14 : b = 14
    · subst b14
      rfl
    rw [x_un b14]
    by_cases b13 : b = 13
    · subst b13
      rfl
    rw [x_un b13]
    by_cases b12 : b = 12
    · subst b12
      rfl
    rw [x_un b12]
    by_cases b11 : b = 11
    · subst b11
      rfl
    rw [x_un b11]
    by_cases b10 : b = 10
    · subst b10
      rfl
    rw [x_un b10]
    by_cases b9 : b = 9
    · subst b9
      rfl
    rw [x_un b9]
    by_cases b8 : b = 8
    · subst b8
      rfl
    rw [x_un b8]
    rw [if_neg (by omega)]
  have s9 : ∀ F G, (∀ c, c < 48 ∨ 57 < c → F c = f c ∧ G c = g c) → x_J 0 (d + 2) Po 71 [some (.ref 48)] [] (F, G, va_up (x_HB4 R0 R1 R2 R3) 48 (va_up (va_up (va_up (va_up (va_up (va_up (va_up (va_up (va_up (fun _ => none) 8 (some 49)) 9 (some 50)) 10 (some 51)) 11 (some 52)) 12 (some 53)) 13 (some 54)) 14 (some 55)) 15 (some 56)) 16 (some 57)), dm ++ [49] ++ [50] ++ [51] ++ [52] ++ [53] ++ [54] ++ [55] ++ [56] ++ [57], 58) 9 101 := by
    intro F G hf
    rw [x_row_f hrow]
    refine x_wp_ok ok0 [] 6 ?_
    refine Exists.intro _ (And.intro (c_clrI_48 (R0 := R0) (R1 := R1) (R2 := R2) (R3 := R3)) (And.intro (And.intro (Nat.le_of_ble_eq_true rfl) (Nat.le_of_ble_eq_true rfl)) (fun zq h' hpo => ?_)))
    obtain ⟨rfl, F2, G2, rfl, w⟩ := hpo
    refine And.intro ?_ ⟨trivial, Nat.le_of_ble_eq_true rfl, Nat.le_of_ble_eq_true rfl⟩
    rw [hPo]
    exact ⟨rfl, F2, G2, rfl, F, G, w, hf⟩
  have s8 : ∀ F G, (∀ c, c < 48 ∨ 57 < c → F c = f c ∧ G c = g c) → x_J 0 (d + 2) Po 63 [some (.ref 48)] [] (F, G, va_up (x_HB4 R0 R1 R2 R3) 48 (va_up (va_up (va_up (va_up (va_up (va_up (va_up (va_up (fun _ => none) 8 (some 49)) 9 (some 50)) 10 (some 51)) 11 (some 52)) 12 (some 53)) 13 (some 54)) 14 (some 55)) 15 (some 56)), dm ++ [49] ++ [50] ++ [51] ++ [52] ++ [53] ++ [54] ++ [55] ++ [56], 57) 8 76 := by
    intro F G hf
    refine x_wp_ok ok0 [71] 6 ?_
    refine And.intro ⟨by decide, rfl, (x_nin (x_nin (x_nin (x_nin (x_nin (x_nin (x_nin (x_nin n9 (show (57 : Nat) ≠ 49 by decide)) (show (57 : Nat) ≠ 50 by decide)) (show (57 : Nat) ≠ 51 by decide)) (show (57 : Nat) ≠ 52 by decide)) (show (57 : Nat) ≠ 53 by decide)) (show (57 : Nat) ≠ 54 by decide)) (show (57 : Nat) ≠ 55 by decide)) (show (57 : Nat) ≠ 56 by decide)), show (57 : Nat) < 1000 by decide, by decide⟩ ?_
    refine And.intro ⟨Nat.le_of_ble_eq_true rfl, Nat.le_of_ble_eq_true rfl⟩ ?_
    have e := s9 (va_up F 57 (fun _ => 0)) (va_up G 57 (fun _ => 0)) (fun c hc => ⟨by rw [x_un (by omega)]; exact (hf c hc).1, by rw [x_un (by omega)]; exact (hf c hc).2⟩)
    rw [← x_vu_up', ← x_row_a (a := 57) (ρ := x_HB4 R0 R1 R2 R3) (L := 48) (u := (va_up (va_up (va_up (va_up (va_up (va_up (va_up (va_up (fun _ => none) 8 (some 49)) 9 (some 50)) 10 (some 51)) 11 (some 52)) 12 (some 53)) 13 (some 54)) 14 (some 55)) 15 (some 56))) rfl (by decide)] at e
    exact e
  have s7 : ∀ F G, (∀ c, c < 48 ∨ 57 < c → F c = f c ∧ G c = g c) → x_J 0 (d + 2) Po 55 [some (.ref 48)] [] (F, G, va_up (x_HB4 R0 R1 R2 R3) 48 (va_up (va_up (va_up (va_up (va_up (va_up (va_up (fun _ => none) 8 (some 49)) 9 (some 50)) 10 (some 51)) 11 (some 52)) 12 (some 53)) 13 (some 54)) 14 (some 55)), dm ++ [49] ++ [50] ++ [51] ++ [52] ++ [53] ++ [54] ++ [55], 56) 7 56 := by
    intro F G hf
    refine x_wp_ok ok0 [63] 6 ?_
    refine And.intro ⟨by decide, rfl, (x_nin (x_nin (x_nin (x_nin (x_nin (x_nin (x_nin n8 (show (56 : Nat) ≠ 49 by decide)) (show (56 : Nat) ≠ 50 by decide)) (show (56 : Nat) ≠ 51 by decide)) (show (56 : Nat) ≠ 52 by decide)) (show (56 : Nat) ≠ 53 by decide)) (show (56 : Nat) ≠ 54 by decide)) (show (56 : Nat) ≠ 55 by decide)), show (56 : Nat) < 1000 by decide, by decide⟩ ?_
    refine And.intro ⟨Nat.le_of_ble_eq_true rfl, Nat.le_of_ble_eq_true rfl⟩ ?_
    have e := s8 (va_up F 56 (fun _ => 0)) (va_up G 56 (fun _ => 0)) (fun c hc => ⟨by rw [x_un (by omega)]; exact (hf c hc).1, by rw [x_un (by omega)]; exact (hf c hc).2⟩)
    rw [← x_vu_up', ← x_row_a (a := 56) (ρ := x_HB4 R0 R1 R2 R3) (L := 48) (u := (va_up (va_up (va_up (va_up (va_up (va_up (va_up (fun _ => none) 8 (some 49)) 9 (some 50)) 10 (some 51)) 11 (some 52)) 12 (some 53)) 13 (some 54)) 14 (some 55))) rfl (by decide)] at e
    exact e
  have s6 : ∀ F G, (∀ c, c < 48 ∨ 57 < c → F c = f c ∧ G c = g c) → x_J 0 (d + 2) Po 47 [some (.ref 48)] [] (F, G, va_up (x_HB4 R0 R1 R2 R3) 48 (va_up (va_up (va_up (va_up (va_up (va_up (fun _ => none) 8 (some 49)) 9 (some 50)) 10 (some 51)) 11 (some 52)) 12 (some 53)) 13 (some 54)), dm ++ [49] ++ [50] ++ [51] ++ [52] ++ [53] ++ [54], 55) 6 36 := by
    intro F G hf
    refine x_wp_ok ok0 [55] 6 ?_
    refine And.intro ⟨by decide, rfl, (x_nin (x_nin (x_nin (x_nin (x_nin (x_nin n7 (show (55 : Nat) ≠ 49 by decide)) (show (55 : Nat) ≠ 50 by decide)) (show (55 : Nat) ≠ 51 by decide)) (show (55 : Nat) ≠ 52 by decide)) (show (55 : Nat) ≠ 53 by decide)) (show (55 : Nat) ≠ 54 by decide)), show (55 : Nat) < 1000 by decide, by decide⟩ ?_
    refine And.intro ⟨Nat.le_of_ble_eq_true rfl, Nat.le_of_ble_eq_true rfl⟩ ?_
    have e := s7 (va_up F 55 (fun _ => 0)) (va_up G 55 (fun _ => 0)) (fun c hc => ⟨by rw [x_un (by omega)]; exact (hf c hc).1, by rw [x_un (by omega)]; exact (hf c hc).2⟩)
    rw [← x_vu_up', ← x_row_a (a := 55) (ρ := x_HB4 R0 R1 R2 R3) (L := 48) (u := (va_up (va_up (va_up (va_up (va_up (va_up (fun _ => none) 8 (some 49)) 9 (some 50)) 10 (some 51)) 11 (some 52)) 12 (some 53)) 13 (some 54))) rfl (by decide)] at e
    exact e
  have s5 : ∀ F G, (∀ c, c < 48 ∨ 57 < c → F c = f c ∧ G c = g c) → x_J 0 (d + 2) Po 40 [some (.ref 48)] [] (F, G, va_up (x_HB4 R0 R1 R2 R3) 48 (va_up (va_up (va_up (va_up (va_up (fun _ => none) 8 (some 49)) 9 (some 50)) 10 (some 51)) 11 (some 52)) 12 (some 53)), dm ++ [49] ++ [50] ++ [51] ++ [52] ++ [53], 54) 5 31 := by
    intro F G hf
    refine x_wp_ok ok0 [47] 6 ?_
    refine And.intro ⟨by decide, rfl, (x_nin (x_nin (x_nin (x_nin (x_nin n6 (show (54 : Nat) ≠ 49 by decide)) (show (54 : Nat) ≠ 50 by decide)) (show (54 : Nat) ≠ 51 by decide)) (show (54 : Nat) ≠ 52 by decide)) (show (54 : Nat) ≠ 53 by decide)), show (54 : Nat) < 1000 by decide, by decide⟩ ?_
    refine And.intro ⟨Nat.le_of_ble_eq_true rfl, Nat.le_of_ble_eq_true rfl⟩ ?_
    have e := s6 (va_up F 54 (fun _ => 0)) (va_up G 54 (fun _ => 0)) (fun c hc => ⟨by rw [x_un (by omega)]; exact (hf c hc).1, by rw [x_un (by omega)]; exact (hf c hc).2⟩)
    rw [← x_vu_up', ← x_row_a (a := 54) (ρ := x_HB4 R0 R1 R2 R3) (L := 48) (u := (va_up (va_up (va_up (va_up (va_up (fun _ => none) 8 (some 49)) 9 (some 50)) 10 (some 51)) 11 (some 52)) 12 (some 53))) rfl (by decide)] at e
    exact e
  have s4 : ∀ F G, (∀ c, c < 48 ∨ 57 < c → F c = f c ∧ G c = g c) → x_J 0 (d + 2) Po 33 [some (.ref 48)] [] (F, G, va_up (x_HB4 R0 R1 R2 R3) 48 (va_up (va_up (va_up (va_up (fun _ => none) 8 (some 49)) 9 (some 50)) 10 (some 51)) 11 (some 52)), dm ++ [49] ++ [50] ++ [51] ++ [52], 53) 4 26 := by
    intro F G hf
    refine x_wp_ok ok0 [40] 6 ?_
    refine And.intro ⟨by decide, rfl, (x_nin (x_nin (x_nin (x_nin n5 (show (53 : Nat) ≠ 49 by decide)) (show (53 : Nat) ≠ 50 by decide)) (show (53 : Nat) ≠ 51 by decide)) (show (53 : Nat) ≠ 52 by decide)), show (53 : Nat) < 1000 by decide, by decide⟩ ?_
    refine And.intro ⟨Nat.le_of_ble_eq_true rfl, Nat.le_of_ble_eq_true rfl⟩ ?_
    have e := s5 (va_up F 53 (fun _ => 0)) (va_up G 53 (fun _ => 0)) (fun c hc => ⟨by rw [x_un (by omega)]; exact (hf c hc).1, by rw [x_un (by omega)]; exact (hf c hc).2⟩)
    rw [← x_vu_up', ← x_row_a (a := 53) (ρ := x_HB4 R0 R1 R2 R3) (L := 48) (u := (va_up (va_up (va_up (va_up (fun _ => none) 8 (some 49)) 9 (some 50)) 10 (some 51)) 11 (some 52))) rfl (by decide)] at e
    exact e
  have s3 : ∀ F G, (∀ c, c < 48 ∨ 57 < c → F c = f c ∧ G c = g c) → x_J 0 (d + 2) Po 26 [some (.ref 48)] [] (F, G, va_up (x_HB4 R0 R1 R2 R3) 48 (va_up (va_up (va_up (fun _ => none) 8 (some 49)) 9 (some 50)) 10 (some 51)), dm ++ [49] ++ [50] ++ [51], 52) 3 21 := by
    intro F G hf
    refine x_wp_ok ok0 [33] 6 ?_
    refine And.intro ⟨by decide, rfl, (x_nin (x_nin (x_nin n4 (show (52 : Nat) ≠ 49 by decide)) (show (52 : Nat) ≠ 50 by decide)) (show (52 : Nat) ≠ 51 by decide)), show (52 : Nat) < 1000 by decide, by decide⟩ ?_
    refine And.intro ⟨Nat.le_of_ble_eq_true rfl, Nat.le_of_ble_eq_true rfl⟩ ?_
    have e := s4 (va_up F 52 (fun _ => 0)) (va_up G 52 (fun _ => 0)) (fun c hc => ⟨by rw [x_un (by omega)]; exact (hf c hc).1, by rw [x_un (by omega)]; exact (hf c hc).2⟩)
    rw [← x_vu_up', ← x_row_a (a := 52) (ρ := x_HB4 R0 R1 R2 R3) (L := 48) (u := (va_up (va_up (va_up (fun _ => none) 8 (some 49)) 9 (some 50)) 10 (some 51))) rfl (by decide)] at e
    exact e
  have s2 : ∀ F G, (∀ c, c < 48 ∨ 57 < c → F c = f c ∧ G c = g c) → x_J 0 (d + 2) Po 19 [some (.ref 48)] [] (F, G, va_up (x_HB4 R0 R1 R2 R3) 48 (va_up (va_up (fun _ => none) 8 (some 49)) 9 (some 50)), dm ++ [49] ++ [50], 51) 2 17 := by
    intro F G hf
    refine x_wp_ok ok0 [26] 6 ?_
    refine And.intro ⟨by decide, rfl, (x_nin (x_nin n3 (show (51 : Nat) ≠ 49 by decide)) (show (51 : Nat) ≠ 50 by decide)), show (51 : Nat) < 1000 by decide, by decide⟩ ?_
    refine And.intro ⟨Nat.le_of_ble_eq_true rfl, Nat.le_of_ble_eq_true rfl⟩ ?_
    have e := s3 (va_up F 51 (fun _ => 0)) (va_up G 51 (fun _ => 0)) (fun c hc => ⟨by rw [x_un (by omega)]; exact (hf c hc).1, by rw [x_un (by omega)]; exact (hf c hc).2⟩)
    rw [← x_vu_up', ← x_row_a (a := 51) (ρ := x_HB4 R0 R1 R2 R3) (L := 48) (u := (va_up (va_up (fun _ => none) 8 (some 49)) 9 (some 50))) rfl (by decide)] at e
    exact e
  have s1 : ∀ F G, (∀ c, c < 48 ∨ 57 < c → F c = f c ∧ G c = g c) → x_J 0 (d + 2) Po 11 [some (.ref 48)] [] (F, G, va_up (x_HB4 R0 R1 R2 R3) 48 (va_up (fun _ => none) 8 (some 49)), dm ++ [49], 50) 1 3 := by
    intro F G hf
    refine x_wp_ok ok0 [19] 6 ?_
    refine And.intro ⟨by decide, rfl, (x_nin n2 (show (50 : Nat) ≠ 49 by decide)), show (50 : Nat) < 1000 by decide, by decide⟩ ?_
    refine And.intro ⟨Nat.le_of_ble_eq_true rfl, Nat.le_of_ble_eq_true rfl⟩ ?_
    have e := s2 (va_up F 50 (fun _ => 0)) (va_up G 50 (fun _ => 0)) (fun c hc => ⟨by rw [x_un (by omega)]; exact (hf c hc).1, by rw [x_un (by omega)]; exact (hf c hc).2⟩)
    rw [← x_vu_up', ← x_row_a (a := 50) (ρ := x_HB4 R0 R1 R2 R3) (L := 48) (u := (va_up (fun _ => none) 8 (some 49))) rfl (by decide)] at e
    exact e
  have s0 : ∀ F G, (∀ c, c < 48 ∨ 57 < c → F c = f c ∧ G c = g c) → x_J 0 (d + 2) Po 4 [some (.ref 48)] [] (F, G, va_up (x_HB4 R0 R1 R2 R3) 48 (fun _ => none), dm, 49) 0 0 := by
    intro F G hf
    refine x_wp_ok ok0 [11] 6 ?_
    refine And.intro ⟨by decide, rfl, n1, show (49 : Nat) < 1000 by decide, by decide⟩ ?_
    refine And.intro ⟨Nat.le_of_ble_eq_true rfl, Nat.le_of_ble_eq_true rfl⟩ ?_
    have e := s1 (va_up F 49 (fun _ => 0)) (va_up G 49 (fun _ => 0)) (fun c hc => ⟨by rw [x_un (by omega)]; exact (hf c hc).1, by rw [x_un (by omega)]; exact (hf c hc).2⟩)
    rw [← x_vu_up', ← x_row_a (a := 49) (ρ := x_HB4 R0 R1 R2 R3) (L := 48) (u := (fun _ => none)) rfl (by decide)] at e
    exact e
  refine x_Ct_w (by decide) (Nat.le_of_ble_eq_true rfl) ok0 [4] 6 ?_
  exact s0 f g (fun c _ => ⟨rfl, rfl⟩)
theorem c_clrI_65 : x_Ct 1 d [.ref 65] (f, g, x_HB4 R0 R1 R2 R3, dm, n) (fun q h' => q = none ∧ ∃ F G, h' = (F, G, x_HB4 R0 R1 R2 R3, dm, n) ∧ x_CL0 f g 65 F G) := by
  obtain ⟨Po, hPo⟩ : ∃ Po : Option Value → xH → Prop, Po = (fun q h' => q = none ∧ ∃ F G, h' = (F, G, x_HB4 R0 R1 R2 R3, dm, n) ∧ x_CL0 f g 65 F G) := ⟨_, rfl⟩
  rw [← hPo]
  have loop2 : ∀ m k F G, k + m = 25 → (F 65 0 = 0 ∧ F 65 1 = 0 ∧ F 65 2 = 0 ∧ F 65 3 = 0 ∧ F 65 4 = 1 ∧ F 65 5 = 0) → (F 66 0 = 500 ∧ F 66 1 = 3 ∧ F 66 2 = 0) → (G 65 6 = 0 ∧ G 65 7 = 0) → (∀ j, j < 20 → F 72 j = 0 ∧ F 73 j = 0) → (∀ j, j < k → F 74 j = 0) → (∀ c, c ≠ 65 → c ≠ 66 → c ≠ 72 → c ≠ 73 → c ≠ 74 → F c = f c) → (∀ c, c ≠ 65 → G c = g c) → x_J 1 d Po 96 [some (.ref 65), some (.int (nI k))] [] (F, G, x_HB4 R0 R1 R2 R3, dm, n) 0 0 := by
    intro m
    induction m with
    | zero =>
      intro k F G hk h1 h2 h3 h4 h5 h6 h7
      obtain rfl : k = 25 := by omega
      refine x_wp_ok ok1 [65, 96] 6 ?_
      refine And.intro (fun _ => ?_) (fun c => absurd (by decide) c)
      refine And.intro ?_ ⟨trivial, Nat.le_refl _, Nat.le_refl _⟩
      rw [hPo]
      exact ⟨rfl, F, G, rfl, h1, h2, h3, h4, h5, h6, h7⟩
    | succ m ih =>
      intro k F G hk h1 h2 h3 h4 h5 h6 h7
      refine x_wp_ok ok1 [65, 96] 6 ?_
      refine And.intro (fun c => absurd (show nI 25 ≤ nI k from c) (nI_ge (by omega) (by decide))) (fun _ => ?_)
      refine And.intro (x_ix_nI (by omega) (by omega)) ?_
      rw [nI_clamp (by omega)]
      have e := ih (k + 1) (x_up F 74 k 0) G (by omega) h1 h2 h3 h4 (fun j hj => by
        by_cases q : j = k
        · rw [q, x_up_s]
        · rw [x_up_j q]
          exact h5 j (by omega)) (fun c q1 q2 q3 q4 q5 => (x_up_k q5).trans (h6 c q1 q2 q3 q4 q5)) h7
      rw [← nI_1o] at e
      exact e
  have loop1 : ∀ m k F G, k + m = 20 → (F 65 0 = 0 ∧ F 65 1 = 0 ∧ F 65 2 = 0 ∧ F 65 3 = 0 ∧ F 65 4 = 1 ∧ F 65 5 = 0) → (F 66 0 = 500 ∧ F 66 1 = 3 ∧ F 66 2 = 0) → (G 65 6 = 0 ∧ G 65 7 = 0) → (∀ j, j < k → F 72 j = 0 ∧ F 73 j = 0) → (∀ c, c ≠ 65 → c ≠ 66 → c ≠ 72 → c ≠ 73 → c ≠ 74 → F c = f c) → (∀ c, c ≠ 65 → G c = g c) → x_J 1 d Po 65 [some (.ref 65), some (.int (nI k))] [] (F, G, x_HB4 R0 R1 R2 R3, dm, n) 0 0 := by
    intro m
    induction m with
    | zero =>
      intro k F G hk h1 h2 h3 h4 h6 h7
      obtain rfl : k = 20 := by omega
      refine x_wp_ok ok1 [65, 96] 6 ?_
      refine And.intro (fun _ => ?_) (fun c => absurd (by decide) c)
      exact loop2 25 0 F G (by decide) h1 h2 h3 h4 (fun j q => absurd q (Nat.not_lt_zero _)) h6 h7
    | succ m ih =>
      intro k F G hk h1 h2 h3 h4 h6 h7
      refine x_wp_ok ok1 [65, 96] 6 ?_
      refine And.intro (fun c => absurd (show nI 20 ≤ nI k from c) (nI_ge (by omega) (by decide))) (fun _ => ?_)
      refine And.intro (x_ix_nI (by omega) (by omega)) ?_
      rw [nI_clamp (by omega)]
      refine And.intro (x_ix_nI (by omega) (by omega)) ?_
      rw [nI_clamp (by omega)]
      have e := ih (k + 1) (x_up (x_up F 72 k 0) 73 k 0) G (by omega) h1 h2 h3 (fun j hj => by
        by_cases q : j = k
        · rw [q]
          exact ⟨(congrFun (x_up_k (by decide)) _).trans (x_up_s _ _ _ _), x_up_s _ _ _ _⟩
        · have := h4 j (by omega)
          exact ⟨(congrFun (x_up_k (by decide)) _).trans ((x_up_j q).trans this.1), (x_up_j q).trans this.2⟩) (fun c q1 q2 q3 q4 q5 => (x_up_k q4).trans ((x_up_k q3).trans (h6 c q1 q2 q3 q4 q5))) h7
      rw [← nI_1o] at e
      exact e
  refine x_Ct_w (by decide) (Nat.le_of_ble_eq_true rfl) ok1 [65, 96] 6 ?_
  refine And.intro (x_ix_nI (j := 0) (by decide) (by decide)) ?_
  refine And.intro (x_ix_nI (j := 1) (by decide) (by decide)) ?_
  refine And.intro (x_ix_nI (j := 2) (by decide) (by decide)) ?_
  refine loop1 20 0 _ _ (by decide) ⟨rfl, rfl, rfl, rfl, rfl, rfl⟩ ⟨rfl, rfl, rfl⟩ ⟨rfl, rfl⟩ (fun j q => absurd q (Nat.not_lt_zero _)) (fun c q1 q2 q3 q4 q5 => ?_) (fun c q => ?_)
  · exact (x_up_k q1).trans ((x_up_k q1).trans ((x_up_k q1).trans ((x_up_k q2).trans ((x_up_k q2).trans ((x_up_k q2).trans ((x_up_k q1).trans ((x_up_k q1).trans (x_up_k q1))))))))
  · exact (x_up_k q).trans (x_up_k q)
theorem c_initLand_65 (n1 : 66 ∉ dm) (n2 : 67 ∉ dm) (n3 : 68 ∉ dm) (n4 : 69 ∉ dm) (n5 : 70 ∉ dm) (n6 : 71 ∉ dm) (n7 : 72 ∉ dm) (n8 : 73 ∉ dm) (n9 : 74 ∉ dm) : x_Ct 0 (d + 2) [.ref 65] (f, g, va_up (x_HB4 R0 R1 R2 R3) 65 (fun _ => none), dm, 66) (fun z h' => z = none ∧ ∃ F G, h' = (F, G, x_HB4 R0 R1 R2 R3, dm ++ [66] ++ [67] ++ [68] ++ [69] ++ [70] ++ [71] ++ [72] ++ [73] ++ [74], 75) ∧ ∃ F0 G0, x_CL0 F0 G0 65 F G ∧ ∀ c, c < 65 ∨ 74 < c → F0 c = f c ∧ G0 c = g c) := by
  obtain ⟨Po, hPo⟩ : ∃ Po : Option Value → xH → Prop, Po = (fun z h' => z = none ∧ ∃ F G, h' = (F, G, x_HB4 R0 R1 R2 R3, dm ++ [66] ++ [67] ++ [68] ++ [69] ++ [70] ++ [71] ++ [72] ++ [73] ++ [74], 75) ∧ ∃ F0 G0, x_CL0 F0 G0 65 F G ∧ ∀ c, c < 65 ∨ 74 < c → F0 c = f c ∧ G0 c = g c) := ⟨_, rfl⟩
  rw [← hPo]
  have hrow : (va_up (va_up (va_up (va_up (va_up (va_up (va_up (va_up (va_up (fun _ => none) 8 (some 66)) 9 (some 67)) 10 (some 68)) 11 (some 69)) 12 (some 70)) 13 (some 71)) 14 (some 72)) 15 (some 73)) 16 (some 74)) = x_HB4 R0 R1 R2 R3 65 := by
    funext b
    show _ = if 8 ≤ b ∧ b ≤ 16 then some (65 + (b - 7)) else none
    by_cases b16 : b = 16
    · subst b16
      rfl
    rw [x_un b16]
    by_cases b15 : b = 15
    · subst b15
      rfl
    rw [x_un b15]
    by_cases b14 : b = 14
    · subst b14
      rfl
    rw [x_un b14]
    by_cases b13 : b = 13
    · subst b13
      rfl
    rw [x_un b13]
    by_cases b12 : b = 12
    · subst b12
      rfl
    rw [x_un b12]
    by_cases b11 : b = 11
    · subst b11
      rfl
    rw [x_un b11]
    by_cases b10 : b = 10
    · subst b10
      rfl
    rw [x_un b10]
    by_cases b9 : b = 9
    · subst b9
      rfl
    rw [x_un b9]
    by_cases b8 : b = 8
    · subst b8
      rfl
    rw [x_un b8]
    rw [if_neg (by omega)]
  have s9 : ∀ F G, (∀ c, c < 65 ∨ 74 < c → F c = f c ∧ G c = g c) → x_J 0 (d + 2) Po 71 [some (.ref 65)] [] (F, G, va_up (x_HB4 R0 R1 R2 R3) 65 (va_up (va_up (va_up (va_up (va_up (va_up (va_up (va_up (va_up (fun _ => none) 8 (some 66)) 9 (some 67)) 10 (some 68)) 11 (some 69)) 12 (some 70)) 13 (some 71)) 14 (some 72)) 15 (some 73)) 16 (some 74)), dm ++ [66] ++ [67] ++ [68] ++ [69] ++ [70] ++ [71] ++ [72] ++ [73] ++ [74], 75) 9 101 := by
    intro F G hf
    rw [x_row_f hrow]
    refine x_wp_ok ok0 [] 6 ?_
    refine Exists.intro _ (And.intro (c_clrI_65 (R0 := R0) (R1 := R1) (R2 := R2) (R3 := R3)) (And.intro (And.intro (Nat.le_of_ble_eq_true rfl) (Nat.le_of_ble_eq_true rfl)) (fun zq h' hpo => ?_)))
    obtain ⟨rfl, F2, G2, rfl, w⟩ := hpo
    refine And.intro ?_ ⟨trivial, Nat.le_of_ble_eq_true rfl, Nat.le_of_ble_eq_true rfl⟩
    rw [hPo]
    exact ⟨rfl, F2, G2, rfl, F, G, w, hf⟩
  have s8 : ∀ F G, (∀ c, c < 65 ∨ 74 < c → F c = f c ∧ G c = g c) → x_J 0 (d + 2) Po 63 [some (.ref 65)] [] (F, G, va_up (x_HB4 R0 R1 R2 R3) 65 (va_up (va_up (va_up (va_up (va_up (va_up (va_up (va_up (fun _ => none) 8 (some 66)) 9 (some 67)) 10 (some 68)) 11 (some 69)) 12 (some 70)) 13 (some 71)) 14 (some 72)) 15 (some 73)), dm ++ [66] ++ [67] ++ [68] ++ [69] ++ [70] ++ [71] ++ [72] ++ [73], 74) 8 76 := by
    intro F G hf
    refine x_wp_ok ok0 [71] 6 ?_
    refine And.intro ⟨by decide, rfl, (x_nin (x_nin (x_nin (x_nin (x_nin (x_nin (x_nin (x_nin n9 (show (74 : Nat) ≠ 66 by decide)) (show (74 : Nat) ≠ 67 by decide)) (show (74 : Nat) ≠ 68 by decide)) (show (74 : Nat) ≠ 69 by decide)) (show (74 : Nat) ≠ 70 by decide)) (show (74 : Nat) ≠ 71 by decide)) (show (74 : Nat) ≠ 72 by decide)) (show (74 : Nat) ≠ 73 by decide)), show (74 : Nat) < 1000 by decide, by decide⟩ ?_
    refine And.intro ⟨Nat.le_of_ble_eq_true rfl, Nat.le_of_ble_eq_true rfl⟩ ?_
    have e := s9 (va_up F 74 (fun _ => 0)) (va_up G 74 (fun _ => 0)) (fun c hc => ⟨by rw [x_un (by omega)]; exact (hf c hc).1, by rw [x_un (by omega)]; exact (hf c hc).2⟩)
    rw [← x_vu_up', ← x_row_a (a := 74) (ρ := x_HB4 R0 R1 R2 R3) (L := 65) (u := (va_up (va_up (va_up (va_up (va_up (va_up (va_up (va_up (fun _ => none) 8 (some 66)) 9 (some 67)) 10 (some 68)) 11 (some 69)) 12 (some 70)) 13 (some 71)) 14 (some 72)) 15 (some 73))) rfl (by decide)] at e
    exact e
  have s7 : ∀ F G, (∀ c, c < 65 ∨ 74 < c → F c = f c ∧ G c = g c) → x_J 0 (d + 2) Po 55 [some (.ref 65)] [] (F, G, va_up (x_HB4 R0 R1 R2 R3) 65 (va_up (va_up (va_up (va_up (va_up (va_up (va_up (fun _ => none) 8 (some 66)) 9 (some 67)) 10 (some 68)) 11 (some 69)) 12 (some 70)) 13 (some 71)) 14 (some 72)), dm ++ [66] ++ [67] ++ [68] ++ [69] ++ [70] ++ [71] ++ [72], 73) 7 56 := by
    intro F G hf
    refine x_wp_ok ok0 [63] 6 ?_
    refine And.intro ⟨by decide, rfl, (x_nin (x_nin (x_nin (x_nin (x_nin (x_nin (x_nin n8 (show (73 : Nat) ≠ 66 by decide)) (show (73 : Nat) ≠ 67 by decide)) (show (73 : Nat) ≠ 68 by decide)) (show (73 : Nat) ≠ 69 by decide)) (show (73 : Nat) ≠ 70 by decide)) (show (73 : Nat) ≠ 71 by decide)) (show (73 : Nat) ≠ 72 by decide)), show (73 : Nat) < 1000 by decide, by decide⟩ ?_
    refine And.intro ⟨Nat.le_of_ble_eq_true rfl, Nat.le_of_ble_eq_true rfl⟩ ?_
    have e := s8 (va_up F 73 (fun _ => 0)) (va_up G 73 (fun _ => 0)) (fun c hc => ⟨by rw [x_un (by omega)]; exact (hf c hc).1, by rw [x_un (by omega)]; exact (hf c hc).2⟩)
    rw [← x_vu_up', ← x_row_a (a := 73) (ρ := x_HB4 R0 R1 R2 R3) (L := 65) (u := (va_up (va_up (va_up (va_up (va_up (va_up (va_up (fun _ => none) 8 (some 66)) 9 (some 67)) 10 (some 68)) 11 (some 69)) 12 (some 70)) 13 (some 71)) 14 (some 72))) rfl (by decide)] at e
    exact e
  have s6 : ∀ F G, (∀ c, c < 65 ∨ 74 < c → F c = f c ∧ G c = g c) → x_J 0 (d + 2) Po 47 [some (.ref 65)] [] (F, G, va_up (x_HB4 R0 R1 R2 R3) 65 (va_up (va_up (va_up (va_up (va_up (va_up (fun _ => none) 8 (some 66)) 9 (some 67)) 10 (some 68)) 11 (some 69)) 12 (some 70)) 13 (some 71)), dm ++ [66] ++ [67] ++ [68] ++ [69] ++ [70] ++ [71], 72) 6 36 := by
    intro F G hf
    refine x_wp_ok ok0 [55] 6 ?_
    refine And.intro ⟨by decide, rfl, (x_nin (x_nin (x_nin (x_nin (x_nin (x_nin n7 (show (72 : Nat) ≠ 66 by decide)) (show (72 : Nat) ≠ 67 by decide)) (show (72 : Nat) ≠ 68 by decide)) (show (72 : Nat) ≠ 69 by decide)) (show (72 : Nat) ≠ 70 by decide)) (show (72 : Nat) ≠ 71 by decide)), show (72 : Nat) < 1000 by decide, by decide⟩ ?_
    refine And.intro ⟨Nat.le_of_ble_eq_true rfl, Nat.le_of_ble_eq_true rfl⟩ ?_
    have e := s7 (va_up F 72 (fun _ => 0)) (va_up G 72 (fun _ => 0)) (fun c hc => ⟨by rw [x_un (by omega)]; exact (hf c hc).1, by rw [x_un (by omega)]; exact (hf c hc).2⟩)
    rw [← x_vu_up', ← x_row_a (a := 72) (ρ := x_HB4 R0 R1 R2 R3) (L := 65) (u := (va_up (va_up (va_up (va_up (va_up (va_up (fun _ => none) 8 (some 66)) 9 (some 67)) 10 (some 68)) 11 (some 69)) 12 (some 70)) 13 (some 71))) rfl (by decide)] at e
    exact e
  have s5 : ∀ F G, (∀ c, c < 65 ∨ 74 < c → F c = f c ∧ G c = g c) → x_J 0 (d + 2) Po 40 [some (.ref 65)] [] (F, G, va_up (x_HB4 R0 R1 R2 R3) 65 (va_up (va_up (va_up (va_up (va_up (fun _ => none) 8 (some 66)) 9 (some 67)) 10 (some 68)) 11 (some 69)) 12 (some 70)), dm ++ [66] ++ [67] ++ [68] ++ [69] ++ [70], 71) 5 31 := by
    intro F G hf
    refine x_wp_ok ok0 [47] 6 ?_
    refine And.intro ⟨by decide, rfl, (x_nin (x_nin (x_nin (x_nin (x_nin n6 (show (71 : Nat) ≠ 66 by decide)) (show (71 : Nat) ≠ 67 by decide)) (show (71 : Nat) ≠ 68 by decide)) (show (71 : Nat) ≠ 69 by decide)) (show (71 : Nat) ≠ 70 by decide)), show (71 : Nat) < 1000 by decide, by decide⟩ ?_
    refine And.intro ⟨Nat.le_of_ble_eq_true rfl, Nat.le_of_ble_eq_true rfl⟩ ?_
    have e := s6 (va_up F 71 (fun _ => 0)) (va_up G 71 (fun _ => 0)) (fun c hc => ⟨by rw [x_un (by omega)]; exact (hf c hc).1, by rw [x_un (by omega)]; exact (hf c hc).2⟩)
    rw [← x_vu_up', ← x_row_a (a := 71) (ρ := x_HB4 R0 R1 R2 R3) (L := 65) (u := (va_up (va_up (va_up (va_up (va_up (fun _ => none) 8 (some 66)) 9 (some 67)) 10 (some 68)) 11 (some 69)) 12 (some 70))) rfl (by decide)] at e
    exact e
  have s4 : ∀ F G, (∀ c, c < 65 ∨ 74 < c → F c = f c ∧ G c = g c) → x_J 0 (d + 2) Po 33 [some (.ref 65)] [] (F, G, va_up (x_HB4 R0 R1 R2 R3) 65 (va_up (va_up (va_up (va_up (fun _ => none) 8 (some 66)) 9 (some 67)) 10 (some 68)) 11 (some 69)), dm ++ [66] ++ [67] ++ [68] ++ [69], 70) 4 26 := by
    intro F G hf
    refine x_wp_ok ok0 [40] 6 ?_
    refine And.intro ⟨by decide, rfl, (x_nin (x_nin (x_nin (x_nin n5 (show (70 : Nat) ≠ 66 by decide)) (show (70 : Nat) ≠ 67 by decide)) (show (70 : Nat) ≠ 68 by decide)) (show (70 : Nat) ≠ 69 by decide)), show (70 : Nat) < 1000 by decide, by decide⟩ ?_
    refine And.intro ⟨Nat.le_of_ble_eq_true rfl, Nat.le_of_ble_eq_true rfl⟩ ?_
    have e := s5 (va_up F 70 (fun _ => 0)) (va_up G 70 (fun _ => 0)) (fun c hc => ⟨by rw [x_un (by omega)]; exact (hf c hc).1, by rw [x_un (by omega)]; exact (hf c hc).2⟩)
    rw [← x_vu_up', ← x_row_a (a := 70) (ρ := x_HB4 R0 R1 R2 R3) (L := 65) (u := (va_up (va_up (va_up (va_up (fun _ => none) 8 (some 66)) 9 (some 67)) 10 (some 68)) 11 (some 69))) rfl (by decide)] at e
    exact e
  have s3 : ∀ F G, (∀ c, c < 65 ∨ 74 < c → F c = f c ∧ G c = g c) → x_J 0 (d + 2) Po 26 [some (.ref 65)] [] (F, G, va_up (x_HB4 R0 R1 R2 R3) 65 (va_up (va_up (va_up (fun _ => none) 8 (some 66)) 9 (some 67)) 10 (some 68)), dm ++ [66] ++ [67] ++ [68], 69) 3 21 := by
    intro F G hf
    refine x_wp_ok ok0 [33] 6 ?_
    refine And.intro ⟨by decide, rfl, (x_nin (x_nin (x_nin n4 (show (69 : Nat) ≠ 66 by decide)) (show (69 : Nat) ≠ 67 by decide)) (show (69 : Nat) ≠ 68 by decide)), show (69 : Nat) < 1000 by decide, by decide⟩ ?_
    refine And.intro ⟨Nat.le_of_ble_eq_true rfl, Nat.le_of_ble_eq_true rfl⟩ ?_
    have e := s4 (va_up F 69 (fun _ => 0)) (va_up G 69 (fun _ => 0)) (fun c hc => ⟨by rw [x_un (by omega)]; exact (hf c hc).1, by rw [x_un (by omega)]; exact (hf c hc).2⟩)
    rw [← x_vu_up', ← x_row_a (a := 69) (ρ := x_HB4 R0 R1 R2 R3) (L := 65) (u := (va_up (va_up (va_up (fun _ => none) 8 (some 66)) 9 (some 67)) 10 (some 68))) rfl (by decide)] at e
    exact e
  have s2 : ∀ F G, (∀ c, c < 65 ∨ 74 < c → F c = f c ∧ G c = g c) → x_J 0 (d + 2) Po 19 [some (.ref 65)] [] (F, G, va_up (x_HB4 R0 R1 R2 R3) 65 (va_up (va_up (fun _ => none) 8 (some 66)) 9 (some 67)), dm ++ [66] ++ [67], 68) 2 17 := by
    intro F G hf
    refine x_wp_ok ok0 [26] 6 ?_
    refine And.intro ⟨by decide, rfl, (x_nin (x_nin n3 (show (68 : Nat) ≠ 66 by decide)) (show (68 : Nat) ≠ 67 by decide)), show (68 : Nat) < 1000 by decide, by decide⟩ ?_
    refine And.intro ⟨Nat.le_of_ble_eq_true rfl, Nat.le_of_ble_eq_true rfl⟩ ?_
    have e := s3 (va_up F 68 (fun _ => 0)) (va_up G 68 (fun _ => 0)) (fun c hc => ⟨by rw [x_un (by omega)]; exact (hf c hc).1, by rw [x_un (by omega)]; exact (hf c hc).2⟩)
    rw [← x_vu_up', ← x_row_a (a := 68) (ρ := x_HB4 R0 R1 R2 R3) (L := 65) (u := (va_up (va_up (fun _ => none) 8 (some 66)) 9 (some 67))) rfl (by decide)] at e
    exact e
  have s1 : ∀ F G, (∀ c, c < 65 ∨ 74 < c → F c = f c ∧ G c = g c) → x_J 0 (d + 2) Po 11 [some (.ref 65)] [] (F, G, va_up (x_HB4 R0 R1 R2 R3) 65 (va_up (fun _ => none) 8 (some 66)), dm ++ [66], 67) 1 3 := by
    intro F G hf
    refine x_wp_ok ok0 [19] 6 ?_
    refine And.intro ⟨by decide, rfl, (x_nin n2 (show (67 : Nat) ≠ 66 by decide)), show (67 : Nat) < 1000 by decide, by decide⟩ ?_
    refine And.intro ⟨Nat.le_of_ble_eq_true rfl, Nat.le_of_ble_eq_true rfl⟩ ?_
    have e := s2 (va_up F 67 (fun _ => 0)) (va_up G 67 (fun _ => 0)) (fun c hc => ⟨by rw [x_un (by omega)]; exact (hf c hc).1, by rw [x_un (by omega)]; exact (hf c hc).2⟩)
    rw [← x_vu_up', ← x_row_a (a := 67) (ρ := x_HB4 R0 R1 R2 R3) (L := 65) (u := (va_up (fun _ => none) 8 (some 66))) rfl (by decide)] at e
    exact e
  have s0 : ∀ F G, (∀ c, c < 65 ∨ 74 < c → F c = f c ∧ G c = g c) → x_J 0 (d + 2) Po 4 [some (.ref 65)] [] (F, G, va_up (x_HB4 R0 R1 R2 R3) 65 (fun _ => none), dm, 66) 0 0 := by
    intro F G hf
    refine x_wp_ok ok0 [11] 6 ?_
    refine And.intro ⟨by decide, rfl, n1, show (66 : Nat) < 1000 by decide, by decide⟩ ?_
    refine And.intro ⟨Nat.le_of_ble_eq_true rfl, Nat.le_of_ble_eq_true rfl⟩ ?_
    have e := s1 (va_up F 66 (fun _ => 0)) (va_up G 66 (fun _ => 0)) (fun c hc => ⟨by rw [x_un (by omega)]; exact (hf c hc).1, by rw [x_un (by omega)]; exact (hf c hc).2⟩)
    rw [← x_vu_up', ← x_row_a (a := 66) (ρ := x_HB4 R0 R1 R2 R3) (L := 65) (u := (fun _ => none)) rfl (by decide)] at e
    exact e
  refine x_Ct_w (by decide) (Nat.le_of_ble_eq_true rfl) ok0 [4] 6 ?_
  exact s0 f g (fun c _ => ⟨rfl, rfl⟩)
theorem c_clrI_82 : x_Ct 1 d [.ref 82] (f, g, x_HB4 R0 R1 R2 R3, dm, n) (fun q h' => q = none ∧ ∃ F G, h' = (F, G, x_HB4 R0 R1 R2 R3, dm, n) ∧ x_CL0 f g 82 F G) := by
  obtain ⟨Po, hPo⟩ : ∃ Po : Option Value → xH → Prop, Po = (fun q h' => q = none ∧ ∃ F G, h' = (F, G, x_HB4 R0 R1 R2 R3, dm, n) ∧ x_CL0 f g 82 F G) := ⟨_, rfl⟩
  rw [← hPo]
  have loop2 : ∀ m k F G, k + m = 25 → (F 82 0 = 0 ∧ F 82 1 = 0 ∧ F 82 2 = 0 ∧ F 82 3 = 0 ∧ F 82 4 = 1 ∧ F 82 5 = 0) → (F 83 0 = 500 ∧ F 83 1 = 3 ∧ F 83 2 = 0) → (G 82 6 = 0 ∧ G 82 7 = 0) → (∀ j, j < 20 → F 89 j = 0 ∧ F 90 j = 0) → (∀ j, j < k → F 91 j = 0) → (∀ c, c ≠ 82 → c ≠ 83 → c ≠ 89 → c ≠ 90 → c ≠ 91 → F c = f c) → (∀ c, c ≠ 82 → G c = g c) → x_J 1 d Po 96 [some (.ref 82), some (.int (nI k))] [] (F, G, x_HB4 R0 R1 R2 R3, dm, n) 0 0 := by
    intro m
    induction m with
    | zero =>
      intro k F G hk h1 h2 h3 h4 h5 h6 h7
      obtain rfl : k = 25 := by omega
      refine x_wp_ok ok1 [65, 96] 6 ?_
      refine And.intro (fun _ => ?_) (fun c => absurd (by decide) c)
      refine And.intro ?_ ⟨trivial, Nat.le_refl _, Nat.le_refl _⟩
      rw [hPo]
      exact ⟨rfl, F, G, rfl, h1, h2, h3, h4, h5, h6, h7⟩
    | succ m ih =>
      intro k F G hk h1 h2 h3 h4 h5 h6 h7
      refine x_wp_ok ok1 [65, 96] 6 ?_
      refine And.intro (fun c => absurd (show nI 25 ≤ nI k from c) (nI_ge (by omega) (by decide))) (fun _ => ?_)
      refine And.intro (x_ix_nI (by omega) (by omega)) ?_
      rw [nI_clamp (by omega)]
      have e := ih (k + 1) (x_up F 91 k 0) G (by omega) h1 h2 h3 h4 (fun j hj => by
        by_cases q : j = k
        · rw [q, x_up_s]
        · rw [x_up_j q]
          exact h5 j (by omega)) (fun c q1 q2 q3 q4 q5 => (x_up_k q5).trans (h6 c q1 q2 q3 q4 q5)) h7
      rw [← nI_1o] at e
      exact e
  have loop1 : ∀ m k F G, k + m = 20 → (F 82 0 = 0 ∧ F 82 1 = 0 ∧ F 82 2 = 0 ∧ F 82 3 = 0 ∧ F 82 4 = 1 ∧ F 82 5 = 0) → (F 83 0 = 500 ∧ F 83 1 = 3 ∧ F 83 2 = 0) → (G 82 6 = 0 ∧ G 82 7 = 0) → (∀ j, j < k → F 89 j = 0 ∧ F 90 j = 0) → (∀ c, c ≠ 82 → c ≠ 83 → c ≠ 89 → c ≠ 90 → c ≠ 91 → F c = f c) → (∀ c, c ≠ 82 → G c = g c) → x_J 1 d Po 65 [some (.ref 82), some (.int (nI k))] [] (F, G, x_HB4 R0 R1 R2 R3, dm, n) 0 0 := by
    intro m
    induction m with
    | zero =>
      intro k F G hk h1 h2 h3 h4 h6 h7
      obtain rfl : k = 20 := by omega
      refine x_wp_ok ok1 [65, 96] 6 ?_
      refine And.intro (fun _ => ?_) (fun c => absurd (by decide) c)
      exact loop2 25 0 F G (by decide) h1 h2 h3 h4 (fun j q => absurd q (Nat.not_lt_zero _)) h6 h7
    | succ m ih =>
      intro k F G hk h1 h2 h3 h4 h6 h7
      refine x_wp_ok ok1 [65, 96] 6 ?_
      refine And.intro (fun c => absurd (show nI 20 ≤ nI k from c) (nI_ge (by omega) (by decide))) (fun _ => ?_)
      refine And.intro (x_ix_nI (by omega) (by omega)) ?_
      rw [nI_clamp (by omega)]
      refine And.intro (x_ix_nI (by omega) (by omega)) ?_
      rw [nI_clamp (by omega)]
      have e := ih (k + 1) (x_up (x_up F 89 k 0) 90 k 0) G (by omega) h1 h2 h3 (fun j hj => by
        by_cases q : j = k
        · rw [q]
          exact ⟨(congrFun (x_up_k (by decide)) _).trans (x_up_s _ _ _ _), x_up_s _ _ _ _⟩
        · have := h4 j (by omega)
          exact ⟨(congrFun (x_up_k (by decide)) _).trans ((x_up_j q).trans this.1), (x_up_j q).trans this.2⟩) (fun c q1 q2 q3 q4 q5 => (x_up_k q4).trans ((x_up_k q3).trans (h6 c q1 q2 q3 q4 q5))) h7
      rw [← nI_1o] at e
      exact e
  refine x_Ct_w (by decide) (Nat.le_of_ble_eq_true rfl) ok1 [65, 96] 6 ?_
  refine And.intro (x_ix_nI (j := 0) (by decide) (by decide)) ?_
  refine And.intro (x_ix_nI (j := 1) (by decide) (by decide)) ?_
  refine And.intro (x_ix_nI (j := 2) (by decide) (by decide)) ?_
  refine loop1 20 0 _ _ (by decide) ⟨rfl, rfl, rfl, rfl, rfl, rfl⟩ ⟨rfl, rfl, rfl⟩ ⟨rfl, rfl⟩ (fun j q => absurd q (Nat.not_lt_zero _)) (fun c q1 q2 q3 q4 q5 => ?_) (fun c q => ?_)
  · exact (x_up_k q1).trans ((x_up_k q1).trans ((x_up_k q1).trans ((x_up_k q2).trans ((x_up_k q2).trans ((x_up_k q2).trans ((x_up_k q1).trans ((x_up_k q1).trans (x_up_k q1))))))))
  · exact (x_up_k q).trans (x_up_k q)
theorem c_initLand_82 (n1 : 83 ∉ dm) (n2 : 84 ∉ dm) (n3 : 85 ∉ dm) (n4 : 86 ∉ dm) (n5 : 87 ∉ dm) (n6 : 88 ∉ dm) (n7 : 89 ∉ dm) (n8 : 90 ∉ dm) (n9 : 91 ∉ dm) : x_Ct 0 (d + 2) [.ref 82] (f, g, va_up (x_HB4 R0 R1 R2 R3) 82 (fun _ => none), dm, 83) (fun z h' => z = none ∧ ∃ F G, h' = (F, G, x_HB4 R0 R1 R2 R3, dm ++ [83] ++ [84] ++ [85] ++ [86] ++ [87] ++ [88] ++ [89] ++ [90] ++ [91], 92) ∧ ∃ F0 G0, x_CL0 F0 G0 82 F G ∧ ∀ c, c < 82 ∨ 91 < c → F0 c = f c ∧ G0 c = g c) := by
  obtain ⟨Po, hPo⟩ : ∃ Po : Option Value → xH → Prop, Po = (fun z h' => z = none ∧ ∃ F G, h' = (F, G, x_HB4 R0 R1 R2 R3, dm ++ [83] ++ [84] ++ [85] ++ [86] ++ [87] ++ [88] ++ [89] ++ [90] ++ [91], 92) ∧ ∃ F0 G0, x_CL0 F0 G0 82 F G ∧ ∀ c, c < 82 ∨ 91 < c → F0 c = f c ∧ G0 c = g c) := ⟨_, rfl⟩
  rw [← hPo]
  have hrow : (va_up (va_up (va_up (va_up (va_up (va_up (va_up (va_up (va_up (fun _ => none) 8 (some 83)) 9 (some 84)) 10 (some 85)) 11 (some 86)) 12 (some 87)) 13 (some 88)) 14 (some 89)) 15 (some 90)) 16 (some 91)) = x_HB4 R0 R1 R2 R3 82 := by
    funext b
    show _ = if 8 ≤ b ∧ b ≤ 16 then some (82 + (b - 7)) else none
    by_cases b16 : b = 16
    · subst b16
      rfl
    rw [x_un b16]
    by_cases b15 : b = 15
    · subst b15
      rfl
    rw [x_un b15]
    by_cases b14 : b = 14
    · subst b14
      rfl
    rw [x_un b14]
    by_cases b13 : b = 13
    · subst b13
      rfl
    rw [x_un b13]
    by_cases b12 : b = 12
    · subst b12
      rfl
    rw [x_un b12]
    by_cases b11 : b = 11
    · subst b11
      rfl
    rw [x_un b11]
    by_cases b10 : b = 10
    · subst b10
      rfl
    rw [x_un b10]
    by_cases b9 : b = 9
    · subst b9
      rfl
    rw [x_un b9]
    by_cases b8 : b = 8
    · subst b8
      rfl
    rw [x_un b8]
    rw [if_neg (by omega)]
  have s9 : ∀ F G, (∀ c, c < 82 ∨ 91 < c → F c = f c ∧ G c = g c) → x_J 0 (d + 2) Po 71 [some (.ref 82)] [] (F, G, va_up (x_HB4 R0 R1 R2 R3) 82 (va_up (va_up (va_up (va_up (va_up (va_up (va_up (va_up (va_up (fun _ => none) 8 (some 83)) 9 (some 84)) 10 (some 85)) 11 (some 86)) 12 (some 87)) 13 (some 88)) 14 (some 89)) 15 (some 90)) 16 (some 91)), dm ++ [83] ++ [84] ++ [85] ++ [86] ++ [87] ++ [88] ++ [89] ++ [90] ++ [91], 92) 9 101 := by
    intro F G hf
    rw [x_row_f hrow]
    refine x_wp_ok ok0 [] 6 ?_
    refine Exists.intro _ (And.intro (c_clrI_82 (R0 := R0) (R1 := R1) (R2 := R2) (R3 := R3)) (And.intro (And.intro (Nat.le_of_ble_eq_true rfl) (Nat.le_of_ble_eq_true rfl)) (fun zq h' hpo => ?_)))
    obtain ⟨rfl, F2, G2, rfl, w⟩ := hpo
    refine And.intro ?_ ⟨trivial, Nat.le_of_ble_eq_true rfl, Nat.le_of_ble_eq_true rfl⟩
    rw [hPo]
    exact ⟨rfl, F2, G2, rfl, F, G, w, hf⟩
  have s8 : ∀ F G, (∀ c, c < 82 ∨ 91 < c → F c = f c ∧ G c = g c) → x_J 0 (d + 2) Po 63 [some (.ref 82)] [] (F, G, va_up (x_HB4 R0 R1 R2 R3) 82 (va_up (va_up (va_up (va_up (va_up (va_up (va_up (va_up (fun _ => none) 8 (some 83)) 9 (some 84)) 10 (some 85)) 11 (some 86)) 12 (some 87)) 13 (some 88)) 14 (some 89)) 15 (some 90)), dm ++ [83] ++ [84] ++ [85] ++ [86] ++ [87] ++ [88] ++ [89] ++ [90], 91) 8 76 := by
    intro F G hf
    refine x_wp_ok ok0 [71] 6 ?_
    refine And.intro ⟨by decide, rfl, (x_nin (x_nin (x_nin (x_nin (x_nin (x_nin (x_nin (x_nin n9 (show (91 : Nat) ≠ 83 by decide)) (show (91 : Nat) ≠ 84 by decide)) (show (91 : Nat) ≠ 85 by decide)) (show (91 : Nat) ≠ 86 by decide)) (show (91 : Nat) ≠ 87 by decide)) (show (91 : Nat) ≠ 88 by decide)) (show (91 : Nat) ≠ 89 by decide)) (show (91 : Nat) ≠ 90 by decide)), show (91 : Nat) < 1000 by decide, by decide⟩ ?_
    refine And.intro ⟨Nat.le_of_ble_eq_true rfl, Nat.le_of_ble_eq_true rfl⟩ ?_
    have e := s9 (va_up F 91 (fun _ => 0)) (va_up G 91 (fun _ => 0)) (fun c hc => ⟨by rw [x_un (by omega)]; exact (hf c hc).1, by rw [x_un (by omega)]; exact (hf c hc).2⟩)
    rw [← x_vu_up', ← x_row_a (a := 91) (ρ := x_HB4 R0 R1 R2 R3) (L := 82) (u := (va_up (va_up (va_up (va_up (va_up (va_up (va_up (va_up (fun _ => none) 8 (some 83)) 9 (some 84)) 10 (some 85)) 11 (some 86)) 12 (some 87)) 13 (some 88)) 14 (some 89)) 15 (some 90))) rfl (by decide)] at e
    exact e
  have s7 : ∀ F G, (∀ c, c < 82 ∨ 91 < c → F c = f c ∧ G c = g c) → x_J 0 (d + 2) Po 55 [some (.ref 82)] [] (F, G, va_up (x_HB4 R0 R1 R2 R3) 82 (va_up (va_up (va_up (va_up (va_up (va_up (va_up (fun _ => none) 8 (some 83)) 9 (some 84)) 10 (some 85)) 11 (some 86)) 12 (some 87)) 13 (some 88)) 14 (some 89)), dm ++ [83] ++ [84] ++ [85] ++ [86] ++ [87] ++ [88] ++ [89], 90) 7 56 := by
    intro F G hf
    refine x_wp_ok ok0 [63] 6 ?_
    refine And.intro ⟨by decide, rfl, (x_nin (x_nin (x_nin (x_nin (x_nin (x_nin (x_nin n8 (show (90 : Nat) ≠ 83 by decide)) (show (90 : Nat) ≠ 84 by decide)) (show (90 : Nat) ≠ 85 by decide)) (show (90 : Nat) ≠ 86 by decide)) (show (90 : Nat) ≠ 87 by decide)) (show (90 : Nat) ≠ 88 by decide)) (show (90 : Nat) ≠ 89 by decide)), show (90 : Nat) < 1000 by decide, by decide⟩ ?_
    refine And.intro ⟨Nat.le_of_ble_eq_true rfl, Nat.le_of_ble_eq_true rfl⟩ ?_
    have e := s8 (va_up F 90 (fun _ => 0)) (va_up G 90 (fun _ => 0)) (fun c hc => ⟨by rw [x_un (by omega)]; exact (hf c hc).1, by rw [x_un (by omega)]; exact (hf c hc).2⟩)
    rw [← x_vu_up', ← x_row_a (a := 90) (ρ := x_HB4 R0 R1 R2 R3) (L := 82) (u := (va_up (va_up (va_up (va_up (va_up (va_up (va_up (fun _ => none) 8 (some 83)) 9 (some 84)) 10 (some 85)) 11 (some 86)) 12 (some 87)) 13 (some 88)) 14 (some 89))) rfl (by decide)] at e
    exact e
  have s6 : ∀ F G, (∀ c, c < 82 ∨ 91 < c → F c = f c ∧ G c = g c) → x_J 0 (d + 2) Po 47 [some (.ref 82)] [] (F, G, va_up (x_HB4 R0 R1 R2 R3) 82 (va_up (va_up (va_up (va_up (va_up (va_up (fun _ => none) 8 (some 83)) 9 (some 84)) 10 (some 85)) 11 (some 86)) 12 (some 87)) 13 (some 88)), dm ++ [83] ++ [84] ++ [85] ++ [86] ++ [87] ++ [88], 89) 6 36 := by
    intro F G hf
    refine x_wp_ok ok0 [55] 6 ?_
    refine And.intro ⟨by decide, rfl, (x_nin (x_nin (x_nin (x_nin (x_nin (x_nin n7 (show (89 : Nat) ≠ 83 by decide)) (show (89 : Nat) ≠ 84 by decide)) (show (89 : Nat) ≠ 85 by decide)) (show (89 : Nat) ≠ 86 by decide)) (show (89 : Nat) ≠ 87 by decide)) (show (89 : Nat) ≠ 88 by decide)), show (89 : Nat) < 1000 by decide, by decide⟩ ?_
    refine And.intro ⟨Nat.le_of_ble_eq_true rfl, Nat.le_of_ble_eq_true rfl⟩ ?_
    have e := s7 (va_up F 89 (fun _ => 0)) (va_up G 89 (fun _ => 0)) (fun c hc => ⟨by rw [x_un (by omega)]; exact (hf c hc).1, by rw [x_un (by omega)]; exact (hf c hc).2⟩)
    rw [← x_vu_up', ← x_row_a (a := 89) (ρ := x_HB4 R0 R1 R2 R3) (L := 82) (u := (va_up (va_up (va_up (va_up (va_up (va_up (fun _ => none) 8 (some 83)) 9 (some 84)) 10 (some 85)) 11 (some 86)) 12 (some 87)) 13 (some 88))) rfl (by decide)] at e
    exact e
  have s5 : ∀ F G, (∀ c, c < 82 ∨ 91 < c → F c = f c ∧ G c = g c) → x_J 0 (d + 2) Po 40 [some (.ref 82)] [] (F, G, va_up (x_HB4 R0 R1 R2 R3) 82 (va_up (va_up (va_up (va_up (va_up (fun _ => none) 8 (some 83)) 9 (some 84)) 10 (some 85)) 11 (some 86)) 12 (some 87)), dm ++ [83] ++ [84] ++ [85] ++ [86] ++ [87], 88) 5 31 := by
    intro F G hf
    refine x_wp_ok ok0 [47] 6 ?_
    refine And.intro ⟨by decide, rfl, (x_nin (x_nin (x_nin (x_nin (x_nin n6 (show (88 : Nat) ≠ 83 by decide)) (show (88 : Nat) ≠ 84 by decide)) (show (88 : Nat) ≠ 85 by decide)) (show (88 : Nat) ≠ 86 by decide)) (show (88 : Nat) ≠ 87 by decide)), show (88 : Nat) < 1000 by decide, by decide⟩ ?_
    refine And.intro ⟨Nat.le_of_ble_eq_true rfl, Nat.le_of_ble_eq_true rfl⟩ ?_
    have e := s6 (va_up F 88 (fun _ => 0)) (va_up G 88 (fun _ => 0)) (fun c hc => ⟨by rw [x_un (by omega)]; exact (hf c hc).1, by rw [x_un (by omega)]; exact (hf c hc).2⟩)
    rw [← x_vu_up', ← x_row_a (a := 88) (ρ := x_HB4 R0 R1 R2 R3) (L := 82) (u := (va_up (va_up (va_up (va_up (va_up (fun _ => none) 8 (some 83)) 9 (some 84)) 10 (some 85)) 11 (some 86)) 12 (some 87))) rfl (by decide)] at e
    exact e
  have s4 : ∀ F G, (∀ c, c < 82 ∨ 91 < c → F c = f c ∧ G c = g c) → x_J 0 (d + 2) Po 33 [some (.ref 82)] [] (F, G, va_up (x_HB4 R0 R1 R2 R3) 82 (va_up (va_up (va_up (va_up (fun _ => none) 8 (some 83)) 9 (some 84)) 10 (some 85)) 11 (some 86)), dm ++ [83] ++ [84] ++ [85] ++ [86], 87) 4 26 := by
    intro F G hf
    refine x_wp_ok ok0 [40] 6 ?_
    refine And.intro ⟨by decide, rfl, (x_nin (x_nin (x_nin (x_nin n5 (show (87 : Nat) ≠ 83 by decide)) (show (87 : Nat) ≠ 84 by decide)) (show (87 : Nat) ≠ 85 by decide)) (show (87 : Nat) ≠ 86 by decide)), show (87 : Nat) < 1000 by decide, by decide⟩ ?_
    refine And.intro ⟨Nat.le_of_ble_eq_true rfl, Nat.le_of_ble_eq_true rfl⟩ ?_
    have e := s5 (va_up F 87 (fun _ => 0)) (va_up G 87 (fun _ => 0)) (fun c hc => ⟨by rw [x_un (by omega)]; exact (hf c hc).1, by rw [x_un (by omega)]; exact (hf c hc).2⟩)
    rw [← x_vu_up', ← x_row_a (a := 87) (ρ := x_HB4 R0 R1 R2 R3) (L := 82) (u := (va_up (va_up (va_up (va_up (fun _ => none) 8 (some 83)) 9 (some 84)) 10 (some 85)) 11 (some 86))) rfl (by decide)] at e
    exact e
  have s3 : ∀ F G, (∀ c, c < 82 ∨ 91 < c → F c = f c ∧ G c = g c) → x_J 0 (d + 2) Po 26 [some (.ref 82)] [] (F, G, va_up (x_HB4 R0 R1 R2 R3) 82 (va_up (va_up (va_up (fun _ => none) 8 (some 83)) 9 (some 84)) 10 (some 85)), dm ++ [83] ++ [84] ++ [85], 86) 3 21 := by
    intro F G hf
    refine x_wp_ok ok0 [33] 6 ?_
    refine And.intro ⟨by decide, rfl, (x_nin (x_nin (x_nin n4 (show (86 : Nat) ≠ 83 by decide)) (show (86 : Nat) ≠ 84 by decide)) (show (86 : Nat) ≠ 85 by decide)), show (86 : Nat) < 1000 by decide, by decide⟩ ?_
    refine And.intro ⟨Nat.le_of_ble_eq_true rfl, Nat.le_of_ble_eq_true rfl⟩ ?_
    have e := s4 (va_up F 86 (fun _ => 0)) (va_up G 86 (fun _ => 0)) (fun c hc => ⟨by rw [x_un (by omega)]; exact (hf c hc).1, by rw [x_un (by omega)]; exact (hf c hc).2⟩)
    rw [← x_vu_up', ← x_row_a (a := 86) (ρ := x_HB4 R0 R1 R2 R3) (L := 82) (u := (va_up (va_up (va_up (fun _ => none) 8 (some 83)) 9 (some 84)) 10 (some 85))) rfl (by decide)] at e
    exact e
  have s2 : ∀ F G, (∀ c, c < 82 ∨ 91 < c → F c = f c ∧ G c = g c) → x_J 0 (d + 2) Po 19 [some (.ref 82)] [] (F, G, va_up (x_HB4 R0 R1 R2 R3) 82 (va_up (va_up (fun _ => none) 8 (some 83)) 9 (some 84)), dm ++ [83] ++ [84], 85) 2 17 := by
    intro F G hf
    refine x_wp_ok ok0 [26] 6 ?_
    refine And.intro ⟨by decide, rfl, (x_nin (x_nin n3 (show (85 : Nat) ≠ 83 by decide)) (show (85 : Nat) ≠ 84 by decide)), show (85 : Nat) < 1000 by decide, by decide⟩ ?_
    refine And.intro ⟨Nat.le_of_ble_eq_true rfl, Nat.le_of_ble_eq_true rfl⟩ ?_
    have e := s3 (va_up F 85 (fun _ => 0)) (va_up G 85 (fun _ => 0)) (fun c hc => ⟨by rw [x_un (by omega)]; exact (hf c hc).1, by rw [x_un (by omega)]; exact (hf c hc).2⟩)
    rw [← x_vu_up', ← x_row_a (a := 85) (ρ := x_HB4 R0 R1 R2 R3) (L := 82) (u := (va_up (va_up (fun _ => none) 8 (some 83)) 9 (some 84))) rfl (by decide)] at e
    exact e
  have s1 : ∀ F G, (∀ c, c < 82 ∨ 91 < c → F c = f c ∧ G c = g c) → x_J 0 (d + 2) Po 11 [some (.ref 82)] [] (F, G, va_up (x_HB4 R0 R1 R2 R3) 82 (va_up (fun _ => none) 8 (some 83)), dm ++ [83], 84) 1 3 := by
    intro F G hf
    refine x_wp_ok ok0 [19] 6 ?_
    refine And.intro ⟨by decide, rfl, (x_nin n2 (show (84 : Nat) ≠ 83 by decide)), show (84 : Nat) < 1000 by decide, by decide⟩ ?_
    refine And.intro ⟨Nat.le_of_ble_eq_true rfl, Nat.le_of_ble_eq_true rfl⟩ ?_
    have e := s2 (va_up F 84 (fun _ => 0)) (va_up G 84 (fun _ => 0)) (fun c hc => ⟨by rw [x_un (by omega)]; exact (hf c hc).1, by rw [x_un (by omega)]; exact (hf c hc).2⟩)
    rw [← x_vu_up', ← x_row_a (a := 84) (ρ := x_HB4 R0 R1 R2 R3) (L := 82) (u := (va_up (fun _ => none) 8 (some 83))) rfl (by decide)] at e
    exact e
  have s0 : ∀ F G, (∀ c, c < 82 ∨ 91 < c → F c = f c ∧ G c = g c) → x_J 0 (d + 2) Po 4 [some (.ref 82)] [] (F, G, va_up (x_HB4 R0 R1 R2 R3) 82 (fun _ => none), dm, 83) 0 0 := by
    intro F G hf
    refine x_wp_ok ok0 [11] 6 ?_
    refine And.intro ⟨by decide, rfl, n1, show (83 : Nat) < 1000 by decide, by decide⟩ ?_
    refine And.intro ⟨Nat.le_of_ble_eq_true rfl, Nat.le_of_ble_eq_true rfl⟩ ?_
    have e := s1 (va_up F 83 (fun _ => 0)) (va_up G 83 (fun _ => 0)) (fun c hc => ⟨by rw [x_un (by omega)]; exact (hf c hc).1, by rw [x_un (by omega)]; exact (hf c hc).2⟩)
    rw [← x_vu_up', ← x_row_a (a := 83) (ρ := x_HB4 R0 R1 R2 R3) (L := 82) (u := (fun _ => none)) rfl (by decide)] at e
    exact e
  refine x_Ct_w (by decide) (Nat.le_of_ble_eq_true rfl) ok0 [4] 6 ?_
  exact s0 f g (fun c _ => ⟨rfl, rfl⟩)
end Ca4
