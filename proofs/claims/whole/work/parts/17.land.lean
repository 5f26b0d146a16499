/-! sums of WORTH -/
def x_wsum (s w : Nat → Int32) (b : Nat) : Nat → Int32
  | 0 => 0
  | k + 1 => x_wsum s w b k + s (b + k) * w k
theorem x_pl4 (p k : Nat) : nI p * 4 + nI k = nI (4 * p + k) := by rw [show (4 : Int32) = nI 4 from rfl, pk_mul, nI_add, Nat.mul_comm]
theorem x_pl5 (p k : Nat) : nI p * 5 + nI k = nI (5 * p + k) := by rw [show (5 : Int32) = nI 5 from rfl, pk_mul, nI_add, Nat.mul_comm]
section C17
variable {f : Nat → Nat → Int32} {g : Nat → Nat → Int64} {r t : Nat} {dm : List Nat} {n d : Nat}
theorem c_worthOf_12_19 {K p : Nat} (hK : f 12 0 = nI K) (hK4 : K ≤ 4) (hp : p < 5) : x_V 14 (d + 1) [.ref 12, .ref 19, .int (nI p)] (f, g, x_HR r t, dm, n) (.int (x_wsum (f 19) (f 15) (4 * p) K)) (f, g, x_HR r t, dm, n) := by
  have loop : ∀ m k, k + m = K → x_J 14 (d + 1) (fun q h' => q = some (.int (x_wsum (f 19) (f 15) (4 * p) K)) ∧ h' = (f, g, x_HR r t, dm, n)) 5 [some (.ref 12), some (.ref 19), some (.int (nI p)), some (.int (x_wsum (f 19) (f 15) (4 * p) k)), some (.int (nI k))] [] (f, g, x_HR r t, dm, n) 0 0 := by
    intro m
    induction m with
    | zero =>
      intro k hk
      refine x_wp_ok ok14 [5] 3 ?_
      refine And.intro (fun _ => ?_) (fun c => ?_)
      · rw [Nat.add_zero] at hk
        subst hk
        exact And.intro ⟨rfl, rfl⟩ ⟨trivial, Nat.le_refl _, Nat.le_refl _⟩
      · have c : ¬ f 12 0 ≤ nI k := c
        rw [hK] at c
        exact absurd (nI_le (by omega) (by omega)) c
    | succ m ih =>
      intro k hk
      refine x_wp_ok ok14 [5] 3 ?_
      refine And.intro (fun c => ?_) (fun _ => ?_)
      · have c : f 12 0 ≤ nI k := c
        rw [hK] at c
        exact absurd c (nI_ge (by omega) (by omega))
      · refine Exists.intro _ (And.intro c_purse (And.intro (And.intro (Nat.zero_le _) (Nat.zero_le _)) (fun q h' hp => ?_)))
        obtain ⟨rfl, rfl⟩ := hp
        rw [x_pl4]
        refine And.intro (x_ix_nI (by omega) (by omega)) ?_
        rw [nI_clamp (by omega)]
        refine And.intro (x_ix_nI (by omega) (by omega)) ?_
        rw [nI_clamp (by omega)]
        have e := ih (k + 1) (by omega)
        rw [nI_succ k] at e
        exact e
  exact x_Ct_w (by decide) (Nat.le_of_ble_eq_true rfl) ok14 [5] 3 (loop K 0 (Nat.zero_add K))
theorem c_worthOf_12_20 {K p : Nat} (hK : f 12 0 = nI K) (hK4 : K ≤ 4) (hp : p < 5) : x_V 14 (d + 1) [.ref 12, .ref 20, .int (nI p)] (f, g, x_HR r t, dm, n) (.int (x_wsum (f 20) (f 15) (4 * p) K)) (f, g, x_HR r t, dm, n) := by
  have loop : ∀ m k, k + m = K → x_J 14 (d + 1) (fun q h' => q = some (.int (x_wsum (f 20) (f 15) (4 * p) K)) ∧ h' = (f, g, x_HR r t, dm, n)) 5 [some (.ref 12), some (.ref 20), some (.int (nI p)), some (.int (x_wsum (f 20) (f 15) (4 * p) k)), some (.int (nI k))] [] (f, g, x_HR r t, dm, n) 0 0 := by
    intro m
    induction m with
    | zero =>
      intro k hk
      refine x_wp_ok ok14 [5] 3 ?_
      refine And.intro (fun _ => ?_) (fun c => ?_)
      · rw [Nat.add_zero] at hk
        subst hk
        exact And.intro ⟨rfl, rfl⟩ ⟨trivial, Nat.le_refl _, Nat.le_refl _⟩
      · have c : ¬ f 12 0 ≤ nI k := c
        rw [hK] at c
        exact absurd (nI_le (by omega) (by omega)) c
    | succ m ih =>
      intro k hk
      refine x_wp_ok ok14 [5] 3 ?_
      refine And.intro (fun c => ?_) (fun _ => ?_)
      · have c : f 12 0 ≤ nI k := c
        rw [hK] at c
        exact absurd c (nI_ge (by omega) (by omega))
      · refine Exists.intro _ (And.intro c_purse (And.intro (And.intro (Nat.zero_le _) (Nat.zero_le _)) (fun q h' hp => ?_)))
        obtain ⟨rfl, rfl⟩ := hp
        rw [x_pl4]
        refine And.intro (x_ix_nI (by omega) (by omega)) ?_
        rw [nI_clamp (by omega)]
        refine And.intro (x_ix_nI (by omega) (by omega)) ?_
        rw [nI_clamp (by omega)]
        have e := ih (k + 1) (by omega)
        rw [nI_succ k] at e
        exact e
  exact x_Ct_w (by decide) (Nat.le_of_ble_eq_true rfl) ok14 [5] 3 (loop K 0 (Nat.zero_add K))
theorem c_worthOf_22_29 {K p : Nat} (hK : f 22 0 = nI K) (hK4 : K ≤ 4) (hp : p < 5) : x_V 14 (d + 1) [.ref 22, .ref 29, .int (nI p)] (f, g, x_HR r t, dm, n) (.int (x_wsum (f 29) (f 25) (4 * p) K)) (f, g, x_HR r t, dm, n) := by
  have loop : ∀ m k, k + m = K → x_J 14 (d + 1) (fun q h' => q = some (.int (x_wsum (f 29) (f 25) (4 * p) K)) ∧ h' = (f, g, x_HR r t, dm, n)) 5 [some (.ref 22), some (.ref 29), some (.int (nI p)), some (.int (x_wsum (f 29) (f 25) (4 * p) k)), some (.int (nI k))] [] (f, g, x_HR r t, dm, n) 0 0 := by
    intro m
    induction m with
    | zero =>
      intro k hk
      refine x_wp_ok ok14 [5] 3 ?_
      refine And.intro (fun _ => ?_) (fun c => ?_)
      · rw [Nat.add_zero] at hk
        subst hk
        exact And.intro ⟨rfl, rfl⟩ ⟨trivial, Nat.le_refl _, Nat.le_refl _⟩
      · have c : ¬ f 22 0 ≤ nI k := c
        rw [hK] at c
        exact absurd (nI_le (by omega) (by omega)) c
    | succ m ih =>
      intro k hk
      refine x_wp_ok ok14 [5] 3 ?_
      refine And.intro (fun c => ?_) (fun _ => ?_)
      · have c : f 22 0 ≤ nI k := c
        rw [hK] at c
        exact absurd c (nI_ge (by omega) (by omega))
      · refine Exists.intro _ (And.intro c_purse (And.intro (And.intro (Nat.zero_le _) (Nat.zero_le _)) (fun q h' hp => ?_)))
        obtain ⟨rfl, rfl⟩ := hp
        rw [x_pl4]
        refine And.intro (x_ix_nI (by omega) (by omega)) ?_
        rw [nI_clamp (by omega)]
        refine And.intro (x_ix_nI (by omega) (by omega)) ?_
        rw [nI_clamp (by omega)]
        have e := ih (k + 1) (by omega)
        rw [nI_succ k] at e
        exact e
  exact x_Ct_w (by decide) (Nat.le_of_ble_eq_true rfl) ok14 [5] 3 (loop K 0 (Nat.zero_add K))
theorem c_worthOf_22_30 {K p : Nat} (hK : f 22 0 = nI K) (hK4 : K ≤ 4) (hp : p < 5) : x_V 14 (d + 1) [.ref 22, .ref 30, .int (nI p)] (f, g, x_HR r t, dm, n) (.int (x_wsum (f 30) (f 25) (4 * p) K)) (f, g, x_HR r t, dm, n) := by
  have loop : ∀ m k, k + m = K → x_J 14 (d + 1) (fun q h' => q = some (.int (x_wsum (f 30) (f 25) (4 * p) K)) ∧ h' = (f, g, x_HR r t, dm, n)) 5 [some (.ref 22), some (.ref 30), some (.int (nI p)), some (.int (x_wsum (f 30) (f 25) (4 * p) k)), some (.int (nI k))] [] (f, g, x_HR r t, dm, n) 0 0 := by
    intro m
    induction m with
    | zero =>
      intro k hk
      refine x_wp_ok ok14 [5] 3 ?_
      refine And.intro (fun _ => ?_) (fun c => ?_)
      · rw [Nat.add_zero] at hk
        subst hk
        exact And.intro ⟨rfl, rfl⟩ ⟨trivial, Nat.le_refl _, Nat.le_refl _⟩
      · have c : ¬ f 22 0 ≤ nI k := c
        rw [hK] at c
        exact absurd (nI_le (by omega) (by omega)) c
    | succ m ih =>
      intro k hk
      refine x_wp_ok ok14 [5] 3 ?_
      refine And.intro (fun c => ?_) (fun _ => ?_)
      · have c : f 22 0 ≤ nI k := c
        rw [hK] at c
        exact absurd c (nI_ge (by omega) (by omega))
      · refine Exists.intro _ (And.intro c_purse (And.intro (And.intro (Nat.zero_le _) (Nat.zero_le _)) (fun q h' hp => ?_)))
        obtain ⟨rfl, rfl⟩ := hp
        rw [x_pl4]
        refine And.intro (x_ix_nI (by omega) (by omega)) ?_
        rw [nI_clamp (by omega)]
        refine And.intro (x_ix_nI (by omega) (by omega)) ?_
        rw [nI_clamp (by omega)]
        have e := ih (k + 1) (by omega)
        rw [nI_succ k] at e
        exact e
  exact x_Ct_w (by decide) (Nat.le_of_ble_eq_true rfl) ok14 [5] 3 (loop K 0 (Nat.zero_add K))
theorem c_worthOf {L A K p : Nat} (hL : L = 12 ∨ L = 22) (hA : A = L + 7 ∨ A = L + 8) (hK : f L 0 = nI K) (hK4 : K ≤ 4) (hp : p < 5) : x_V 14 (d + 1) [.ref L, .ref A, .int (nI p)] (f, g, x_HR r t, dm, n) (.int (x_wsum (f A) (f (L + 3)) (4 * p) K)) (f, g, x_HR r t, dm, n) := by
  rcases hL with rfl | rfl <;> rcases hA with rfl | rfl
  · exact c_worthOf_12_19 hK hK4 hp
  · exact c_worthOf_12_20 hK hK4 hp
  · exact c_worthOf_22_29 hK hK4 hp
  · exact c_worthOf_22_30 hK hK4 hp
end C17
