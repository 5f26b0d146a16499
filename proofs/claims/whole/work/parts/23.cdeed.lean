/-! what a call on the class leaves: its answer, STATUS, the view of its realm; all else stays but the table of sums -/
def x_PC (f : Nat → Nat → Int32) (g : Nat → Nat → Int64) (L : Nat) (ρ : Nat → Nat → Option Nat) (dm : List Nat) (n : Nat) (S : xS) : Option Value → xH → Prop := fun q h' =>
  ∃ F G, h' = (F, G, ρ, dm, n) ∧ q = some S.1 ∧ v_C F G L S.2.2 ∧ F 0 0 = S.2.1 ∧ (∀ j, j ≠ 0 → F 0 j = f 0 j) ∧ G 0 = g 0 ∧ G (L + 2) = g (L + 2) ∧ ∀ k, k ≠ 0 → k < L ∨ L + 9 < k → k ≠ 100 → F k = f k ∧ G k = g k
theorem x_nIm {w : Nat} (h : w < 2 ^ 31) : ¬ nI w = -1 := by
  intro e
  have h1 : (nI w).toInt = (w : Int) := nI_toInt h
  rw [e] at h1
  have h2 : (-1 : Int32).toInt = -1 := rfl
  omega
section C23
variable {f : Nat → Nat → Int32} {g : Nat → Nat → Int64} {r t : Nat} {ρ : Nat → Nat → Option Nat} {dm : List Nat} {n d : Nat} {v : xV} {h : xH}
theorem x_PC_F {L : Nat} (hL : 0 < L) {F : Nat → Nat → Int32} {G : Nat → Nat → Int64} {w : Value} {s : Int32} {v' : xV} (hC : v_C F G L v') (hg : G (L + 2) = g (L + 2)) (hk : ∀ k, k < L ∨ L + 9 < k → k ≠ 100 → F k = f k ∧ G k = g k) : x_PC f g L ρ dm n (w, s, v') (some w) (x_up F 0 0 s, G, ρ, dm, n) := by
  refine ⟨_, _, rfl, rfl, v_C_fr hC (fun k h1 _ => x_up_k (by omega)) rfl, x_up_s _ _ _ _, fun j hj => ?_, (hk 0 (Or.inl hL) (by decide)).2, hg, fun k h0 h1 h2 => ⟨?_, (hk k h1 h2).2⟩⟩
  · rw [x_up_j hj, (hk 0 (Or.inl hL) (by decide)).1]
  · rw [x_up_k h0, (hk k h1 h2).1]
theorem x_PC_0 {L : Nat} (hL : 0 < L) {w : Value} {s : Int32} (hC : v_C f g L v) : x_PC f g L ρ dm n (w, s, v) (some w) (x_up f 0 0 s, g, ρ, dm, n) := x_PC_F hL hC rfl (fun _ _ _ => ⟨rfl, rfl⟩)
theorem c_pay_12 {x y z : Int32} (hC : v_C f g 12 v) (hB : v_B v) : x_Ct 116 (d + 4) [.ref 0, .int x, .int y, .int z] (f, g, x_HR 12 t, dm, n) (x_PC f g 12 (x_HR 12 t) dm n (sp_pay v x y z)) := by
  have bK := v_B_K hB
  have bG := v_B_G hB
  have bP := v_B_P hB
  have o0 : v_ok v 0 0 0 := ⟨rfl, rfl⟩
  have h0 : f 12 0 = nI (v 0 0 0) := hC.1 0 0 0 o0
  have b0 : v 0 0 0 ≤ 4 := (hB.1 0 0 0 o0).2
  have o2 : v_ok v 2 0 0 := ⟨rfl, rfl⟩
  have h2 : f 12 2 = nI (v 2 0 0) := hC.1 2 0 0 o2
  have b2 : v 2 0 0 ≤ 5 := (hB.1 2 0 0 o2).2
  unfold sp_pay
  refine x_Ct_w (by decide) (Nat.le_of_ble_eq_true rfl) ok116 [] 8 ?_
  refine Exists.intro _ (And.intro (c_hasPurse rfl h0 bK h2 bP) (And.intro (And.intro (Nat.zero_le _) (Nat.zero_le _)) (fun q h' hpo => ?_)))
  obtain ⟨rfl, rfl⟩ := hpo
  cases hb : (x_ixb x (v 2 0 0) && x_ixb y (v 0 0 0)) with
  | false =>
    refine And.intro (fun _ => ?_) (fun c => absurd rfl c)
    refine Exists.intro _ (And.intro c_refuse (And.intro (And.intro (Nat.zero_le _) (Nat.zero_le _)) (fun q h' hpo => ?_)))
    obtain ⟨rfl, rfl⟩ := hpo
    refine And.intro ?_ ⟨trivial, Nat.le_refl _, Nat.le_refl _⟩
    exact x_PC_0 (by decide) hC
  | true =>
    refine And.intro (fun c => absurd c (by decide)) (fun _ => ?_)
    refine Exists.intro _ (And.intro c_isAmount (And.intro (And.intro (Nat.zero_le _) (Nat.zero_le _)) (fun q h' hpo => ?_)))
    obtain ⟨rfl, rfl⟩ := hpo
    cases hz : x_wi z 1 999 with
    | false =>
      refine And.intro (fun c => absurd rfl c) (fun _ => ?_)
      refine Exists.intro _ (And.intro c_refuse (And.intro (And.intro (Nat.zero_le _) (Nat.zero_le _)) (fun q h' hpo => ?_)))
      obtain ⟨rfl, rfl⟩ := hpo
      refine And.intro ?_ ⟨trivial, Nat.le_refl _, Nat.le_refl _⟩
      exact x_PC_0 (by decide) hC
    | true =>
      refine And.intro (fun _ => ?_) (fun c => absurd c (by decide))
      rw [Bool.and_eq_true] at hb
      obtain ⟨p, hp, rfl⟩ := x_ixb_t hb.1 (by omega)
      obtain ⟨k, hk, rfl⟩ := x_ixb_t hb.2 (by omega)
      obtain ⟨m, hm1, hm, rfl⟩ := x_wi_t (lo := 1) (hi := 999) hz (by decide) (by decide)
      rw [x_c, x_c, x_c, nI_clamp (by omega), nI_clamp (by omega), nI_clamp (by omega)]
      have o13 : v_ok v 13 p k := show p < v 2 0 0 ∧ k < v 0 0 0 from ⟨by omega, by omega⟩
      have h13 : f 19 (4 * p + k) = nI (v 13 p k) := hC.1 13 p k o13
      have b13 : v 13 p k ≤ 9999 := (hB.1 13 p k o13).2
      have o14 : v_ok v 14 p k := show p < v 2 0 0 ∧ k < v 0 0 0 from ⟨by omega, by omega⟩
      have h14 : f 20 (4 * p + k) = nI (v 14 p k) := hC.1 14 p k o14
      have b14 : v 14 p k ≤ 9999 := (hB.1 14 p k o14).2
      unfold s_pay
      refine Exists.intro _ (And.intro (c_printFor_12 hC hB hp hk hm) (And.intro (And.intro (Nat.zero_le _) (Nat.zero_le _)) (fun q h' hpo => ?_)))
      by_cases hc : 9999 < v 13 p k + m
      · rw [if_pos hc] at hpo
        rw [if_pos hc]
        obtain ⟨rfl, rfl⟩ := hpo
        refine Exists.intro _ (And.intro c_ifDone (And.intro (And.intro (Nat.zero_le _) (Nat.zero_le _)) (fun q h' hpo => ?_)))
        obtain ⟨rfl, rfl⟩ := hpo
        refine And.intro ?_ ⟨trivial, Nat.le_refl _, Nat.le_refl _⟩
        rw [if_pos rfl]
        exact x_PC_0 (by decide) hC
      · rw [if_neg hc] at hpo
        rw [if_neg hc]
        obtain ⟨F, G, rfl, rfl, hC', hg', hf'⟩ := hpo
        refine Exists.intro _ (And.intro c_ifDone (And.intro (And.intro (Nat.zero_le _) (Nat.zero_le _)) (fun q h' hpo => ?_)))
        obtain ⟨rfl, rfl⟩ := hpo
        refine And.intro ?_ ⟨trivial, Nat.le_refl _, Nat.le_refl _⟩
        rw [if_neg (x_nIm (by omega))]
        exact x_PC_F (by decide) hC' hg' hf'
theorem c_tear_12 {x y z : Int32} (hC : v_C f g 12 v) (hB : v_B v) : x_Ct 119 (d + 4) [.ref 0, .int x, .int y, .int z] (f, g, x_HR 12 t, dm, n) (x_PC f g 12 (x_HR 12 t) dm n (sp_tear v x y z)) := by
  have bK := v_B_K hB
  have bG := v_B_G hB
  have bP := v_B_P hB
  have o0 : v_ok v 0 0 0 := ⟨rfl, rfl⟩
  have h0 : f 12 0 = nI (v 0 0 0) := hC.1 0 0 0 o0
  have b0 : v 0 0 0 ≤ 4 := (hB.1 0 0 0 o0).2
  have o2 : v_ok v 2 0 0 := ⟨rfl, rfl⟩
  have h2 : f 12 2 = nI (v 2 0 0) := hC.1 2 0 0 o2
  have b2 : v 2 0 0 ≤ 5 := (hB.1 2 0 0 o2).2
  unfold sp_tear
  refine x_Ct_w (by decide) (Nat.le_of_ble_eq_true rfl) ok119 [] 8 ?_
  refine Exists.intro _ (And.intro (c_hasPurse rfl h0 bK h2 bP) (And.intro (And.intro (Nat.zero_le _) (Nat.zero_le _)) (fun q h' hpo => ?_)))
  obtain ⟨rfl, rfl⟩ := hpo
  cases hb : (x_ixb x (v 2 0 0) && x_ixb y (v 0 0 0)) with
  | false =>
    refine And.intro (fun _ => ?_) (fun c => absurd rfl c)
    refine Exists.intro _ (And.intro c_refuse (And.intro (And.intro (Nat.zero_le _) (Nat.zero_le _)) (fun q h' hpo => ?_)))
    obtain ⟨rfl, rfl⟩ := hpo
    refine And.intro ?_ ⟨trivial, Nat.le_refl _, Nat.le_refl _⟩
    exact x_PC_0 (by decide) hC
  | true =>
    refine And.intro (fun c => absurd c (by decide)) (fun _ => ?_)
    refine Exists.intro _ (And.intro c_isAmount (And.intro (And.intro (Nat.zero_le _) (Nat.zero_le _)) (fun q h' hpo => ?_)))
    obtain ⟨rfl, rfl⟩ := hpo
    cases hz : x_wi z 1 999 with
    | false =>
      refine And.intro (fun c => absurd rfl c) (fun _ => ?_)
      refine Exists.intro _ (And.intro c_refuse (And.intro (And.intro (Nat.zero_le _) (Nat.zero_le _)) (fun q h' hpo => ?_)))
      obtain ⟨rfl, rfl⟩ := hpo
      refine And.intro ?_ ⟨trivial, Nat.le_refl _, Nat.le_refl _⟩
      exact x_PC_0 (by decide) hC
    | true =>
      refine And.intro (fun _ => ?_) (fun c => absurd c (by decide))
      rw [Bool.and_eq_true] at hb
      obtain ⟨p, hp, rfl⟩ := x_ixb_t hb.1 (by omega)
      obtain ⟨k, hk, rfl⟩ := x_ixb_t hb.2 (by omega)
      obtain ⟨m, hm1, hm, rfl⟩ := x_wi_t (lo := 1) (hi := 999) hz (by decide) (by decide)
      rw [x_c, x_c, x_c, nI_clamp (by omega), nI_clamp (by omega), nI_clamp (by omega)]
      have o13 : v_ok v 13 p k := show p < v 2 0 0 ∧ k < v 0 0 0 from ⟨by omega, by omega⟩
      have h13 : f 19 (4 * p + k) = nI (v 13 p k) := hC.1 13 p k o13
      have b13 : v 13 p k ≤ 9999 := (hB.1 13 p k o13).2
      have o14 : v_ok v 14 p k := show p < v 2 0 0 ∧ k < v 0 0 0 from ⟨by omega, by omega⟩
      have h14 : f 20 (4 * p + k) = nI (v 14 p k) := hC.1 14 p k o14
      have b14 : v 14 p k ≤ 9999 := (hB.1 14 p k o14).2
      unfold s_tear
      refine Exists.intro _ (And.intro (c_tearUp_12 hC hB hp hk hm) (And.intro (And.intro (Nat.zero_le _) (Nat.zero_le _)) (fun q h' hpo => ?_)))
      by_cases hc : v 13 p k < m ∨ 9999 < v 14 p k + m
      · rw [if_pos hc] at hpo
        rw [if_pos hc]
        obtain ⟨rfl, rfl⟩ := hpo
        refine Exists.intro _ (And.intro c_ifDone (And.intro (And.intro (Nat.zero_le _) (Nat.zero_le _)) (fun q h' hpo => ?_)))
        obtain ⟨rfl, rfl⟩ := hpo
        refine And.intro ?_ ⟨trivial, Nat.le_refl _, Nat.le_refl _⟩
        rw [if_pos rfl]
        exact x_PC_0 (by decide) hC
      · rw [if_neg hc] at hpo
        rw [if_neg hc]
        obtain ⟨F, G, rfl, rfl, hC', hg', hf'⟩ := hpo
        refine Exists.intro _ (And.intro c_ifDone (And.intro (And.intro (Nat.zero_le _) (Nat.zero_le _)) (fun q h' hpo => ?_)))
        obtain ⟨rfl, rfl⟩ := hpo
        refine And.intro ?_ ⟨trivial, Nat.le_refl _, Nat.le_refl _⟩
        rw [if_neg (x_nIm (by omega))]
        exact x_PC_F (by decide) hC' hg' hf'
theorem c_mend_12 {x y z : Int32} (hC : v_C f g 12 v) (hB : v_B v) : x_Ct 120 (d + 4) [.ref 0, .int x, .int y, .int z] (f, g, x_HR 12 t, dm, n) (x_PC f g 12 (x_HR 12 t) dm n (sp_mend v x y z)) := by
  have bK := v_B_K hB
  have bG := v_B_G hB
  have bP := v_B_P hB
  have o0 : v_ok v 0 0 0 := ⟨rfl, rfl⟩
  have h0 : f 12 0 = nI (v 0 0 0) := hC.1 0 0 0 o0
  have b0 : v 0 0 0 ≤ 4 := (hB.1 0 0 0 o0).2
  have o2 : v_ok v 2 0 0 := ⟨rfl, rfl⟩
  have h2 : f 12 2 = nI (v 2 0 0) := hC.1 2 0 0 o2
  have b2 : v 2 0 0 ≤ 5 := (hB.1 2 0 0 o2).2
  unfold sp_mend
  refine x_Ct_w (by decide) (Nat.le_of_ble_eq_true rfl) ok120 [] 8 ?_
  refine Exists.intro _ (And.intro (c_hasPurse rfl h0 bK h2 bP) (And.intro (And.intro (Nat.zero_le _) (Nat.zero_le _)) (fun q h' hpo => ?_)))
  obtain ⟨rfl, rfl⟩ := hpo
  cases hb : (x_ixb x (v 2 0 0) && x_ixb y (v 0 0 0)) with
  | false =>
    refine And.intro (fun _ => ?_) (fun c => absurd rfl c)
    refine Exists.intro _ (And.intro c_refuse (And.intro (And.intro (Nat.zero_le _) (Nat.zero_le _)) (fun q h' hpo => ?_)))
    obtain ⟨rfl, rfl⟩ := hpo
    refine And.intro ?_ ⟨trivial, Nat.le_refl _, Nat.le_refl _⟩
    exact x_PC_0 (by decide) hC
  | true =>
    refine And.intro (fun c => absurd c (by decide)) (fun _ => ?_)
    refine Exists.intro _ (And.intro c_isAmount (And.intro (And.intro (Nat.zero_le _) (Nat.zero_le _)) (fun q h' hpo => ?_)))
    obtain ⟨rfl, rfl⟩ := hpo
    cases hz : x_wi z 1 999 with
    | false =>
      refine And.intro (fun c => absurd rfl c) (fun _ => ?_)
      refine Exists.intro _ (And.intro c_refuse (And.intro (And.intro (Nat.zero_le _) (Nat.zero_le _)) (fun q h' hpo => ?_)))
      obtain ⟨rfl, rfl⟩ := hpo
      refine And.intro ?_ ⟨trivial, Nat.le_refl _, Nat.le_refl _⟩
      exact x_PC_0 (by decide) hC
    | true =>
      refine And.intro (fun _ => ?_) (fun c => absurd c (by decide))
      rw [Bool.and_eq_true] at hb
      obtain ⟨p, hp, rfl⟩ := x_ixb_t hb.1 (by omega)
      obtain ⟨k, hk, rfl⟩ := x_ixb_t hb.2 (by omega)
      obtain ⟨m, hm1, hm, rfl⟩ := x_wi_t (lo := 1) (hi := 999) hz (by decide) (by decide)
      rw [x_c, x_c, x_c, nI_clamp (by omega), nI_clamp (by omega), nI_clamp (by omega)]
      have o13 : v_ok v 13 p k := show p < v 2 0 0 ∧ k < v 0 0 0 from ⟨by omega, by omega⟩
      have h13 : f 19 (4 * p + k) = nI (v 13 p k) := hC.1 13 p k o13
      have b13 : v 13 p k ≤ 9999 := (hB.1 13 p k o13).2
      have o14 : v_ok v 14 p k := show p < v 2 0 0 ∧ k < v 0 0 0 from ⟨by omega, by omega⟩
      have h14 : f 20 (4 * p + k) = nI (v 14 p k) := hC.1 14 p k o14
      have b14 : v 14 p k ≤ 9999 := (hB.1 14 p k o14).2
      unfold s_mend
      refine Exists.intro _ (And.intro (c_mendTorn_12 hC hB hp hk hm) (And.intro (And.intro (Nat.zero_le _) (Nat.zero_le _)) (fun q h' hpo => ?_)))
      by_cases hc : v 14 p k < m
      · rw [if_pos hc] at hpo
        rw [if_pos hc]
        obtain ⟨rfl, rfl⟩ := hpo
        refine Exists.intro _ (And.intro c_ifDone (And.intro (And.intro (Nat.zero_le _) (Nat.zero_le _)) (fun q h' hpo => ?_)))
        obtain ⟨rfl, rfl⟩ := hpo
        refine And.intro ?_ ⟨trivial, Nat.le_refl _, Nat.le_refl _⟩
        rw [if_pos rfl]
        exact x_PC_0 (by decide) hC
      · rw [if_neg hc] at hpo
        rw [if_neg hc]
        obtain ⟨F, G, rfl, rfl, hC', hg', hf'⟩ := hpo
        refine Exists.intro _ (And.intro c_ifDone (And.intro (And.intro (Nat.zero_le _) (Nat.zero_le _)) (fun q h' hpo => ?_)))
        obtain ⟨rfl, rfl⟩ := hpo
        refine And.intro ?_ ⟨trivial, Nat.le_refl _, Nat.le_refl _⟩
        rw [if_neg (x_nIm (by have : d_back v p k m ≤ m - d_kept v m := Nat.min_le_left _ _; omega))]
        exact x_PC_F (by decide) hC' hg' hf'
theorem c_burn_12 {x y z : Int32} (hC : v_C f g 12 v) (hB : v_B v) : x_Ct 122 (d + 4) [.ref 0, .int x, .int y, .int z] (f, g, x_HR 12 t, dm, n) (x_PC f g 12 (x_HR 12 t) dm n (sp_burn v x y z)) := by
  have bK := v_B_K hB
  have bG := v_B_G hB
  have bP := v_B_P hB
  have o0 : v_ok v 0 0 0 := ⟨rfl, rfl⟩
  have h0 : f 12 0 = nI (v 0 0 0) := hC.1 0 0 0 o0
  have b0 : v 0 0 0 ≤ 4 := (hB.1 0 0 0 o0).2
  have o2 : v_ok v 2 0 0 := ⟨rfl, rfl⟩
  have h2 : f 12 2 = nI (v 2 0 0) := hC.1 2 0 0 o2
  have b2 : v 2 0 0 ≤ 5 := (hB.1 2 0 0 o2).2
  unfold sp_burn
  refine x_Ct_w (by decide) (Nat.le_of_ble_eq_true rfl) ok122 [] 8 ?_
  refine Exists.intro _ (And.intro (c_hasPurse rfl h0 bK h2 bP) (And.intro (And.intro (Nat.zero_le _) (Nat.zero_le _)) (fun q h' hpo => ?_)))
  obtain ⟨rfl, rfl⟩ := hpo
  cases hb : (x_ixb x (v 2 0 0) && x_ixb y (v 0 0 0)) with
  | false =>
    refine And.intro (fun _ => ?_) (fun c => absurd rfl c)
    refine Exists.intro _ (And.intro c_refuse (And.intro (And.intro (Nat.zero_le _) (Nat.zero_le _)) (fun q h' hpo => ?_)))
    obtain ⟨rfl, rfl⟩ := hpo
    refine And.intro ?_ ⟨trivial, Nat.le_refl _, Nat.le_refl _⟩
    exact x_PC_0 (by decide) hC
  | true =>
    refine And.intro (fun c => absurd c (by decide)) (fun _ => ?_)
    refine Exists.intro _ (And.intro c_isAmount (And.intro (And.intro (Nat.zero_le _) (Nat.zero_le _)) (fun q h' hpo => ?_)))
    obtain ⟨rfl, rfl⟩ := hpo
    cases hz : x_wi z 1 999 with
    | false =>
      refine And.intro (fun c => absurd rfl c) (fun _ => ?_)
      refine Exists.intro _ (And.intro c_refuse (And.intro (And.intro (Nat.zero_le _) (Nat.zero_le _)) (fun q h' hpo => ?_)))
      obtain ⟨rfl, rfl⟩ := hpo
      refine And.intro ?_ ⟨trivial, Nat.le_refl _, Nat.le_refl _⟩
      exact x_PC_0 (by decide) hC
    | true =>
      refine And.intro (fun _ => ?_) (fun c => absurd c (by decide))
      rw [Bool.and_eq_true] at hb
      obtain ⟨p, hp, rfl⟩ := x_ixb_t hb.1 (by omega)
      obtain ⟨k, hk, rfl⟩ := x_ixb_t hb.2 (by omega)
      obtain ⟨m, hm1, hm, rfl⟩ := x_wi_t (lo := 1) (hi := 999) hz (by decide) (by decide)
      rw [x_c, x_c, x_c, nI_clamp (by omega), nI_clamp (by omega), nI_clamp (by omega)]
      have o13 : v_ok v 13 p k := show p < v 2 0 0 ∧ k < v 0 0 0 from ⟨by omega, by omega⟩
      have h13 : f 19 (4 * p + k) = nI (v 13 p k) := hC.1 13 p k o13
      have b13 : v 13 p k ≤ 9999 := (hB.1 13 p k o13).2
      have o14 : v_ok v 14 p k := show p < v 2 0 0 ∧ k < v 0 0 0 from ⟨by omega, by omega⟩
      have h14 : f 20 (4 * p + k) = nI (v 14 p k) := hC.1 14 p k o14
      have b14 : v 14 p k ≤ 9999 := (hB.1 14 p k o14).2
      unfold s_burn
      refine Exists.intro _ (And.intro (c_burnWhole_12 hC hB hp hk hm) (And.intro (And.intro (Nat.zero_le _) (Nat.zero_le _)) (fun q h' hpo => ?_)))
      by_cases hc : v 13 p k < m
      · rw [if_pos hc] at hpo
        rw [if_pos hc]
        obtain ⟨rfl, rfl⟩ := hpo
        refine Exists.intro _ (And.intro c_ifDone (And.intro (And.intro (Nat.zero_le _) (Nat.zero_le _)) (fun q h' hpo => ?_)))
        obtain ⟨rfl, rfl⟩ := hpo
        refine And.intro ?_ ⟨trivial, Nat.le_refl _, Nat.le_refl _⟩
        rw [if_pos rfl]
        exact x_PC_0 (by decide) hC
      · rw [if_neg hc] at hpo
        rw [if_neg hc]
        obtain ⟨F, G, rfl, rfl, hC', hg', hf'⟩ := hpo
        refine Exists.intro _ (And.intro c_ifDone (And.intro (And.intro (Nat.zero_le _) (Nat.zero_le _)) (fun q h' hpo => ?_)))
        obtain ⟨rfl, rfl⟩ := hpo
        refine And.intro ?_ ⟨trivial, Nat.le_refl _, Nat.le_refl _⟩
        rw [if_neg (x_nIm (by omega))]
        exact x_PC_F (by decide) hC' hg' hf'
theorem c_cross_12 {x y z : Int32} (hC : v_C f g 12 v) (hB : v_B v) : x_Ct 123 (d + 4) [.ref 0, .int x, .int y, .int z] (f, g, x_HR 12 t, dm, n) (x_PC f g 12 (x_HR 12 t) dm n (sp_cross v x y z)) := by
  have bK := v_B_K hB
  have bG := v_B_G hB
  have bP := v_B_P hB
  have o0 : v_ok v 0 0 0 := ⟨rfl, rfl⟩
  have h0 : f 12 0 = nI (v 0 0 0) := hC.1 0 0 0 o0
  have b0 : v 0 0 0 ≤ 4 := (hB.1 0 0 0 o0).2
  have o2 : v_ok v 2 0 0 := ⟨rfl, rfl⟩
  have h2 : f 12 2 = nI (v 2 0 0) := hC.1 2 0 0 o2
  have b2 : v 2 0 0 ≤ 5 := (hB.1 2 0 0 o2).2
  unfold sp_cross
  refine x_Ct_w (by decide) (Nat.le_of_ble_eq_true rfl) ok123 [] 8 ?_
  refine Exists.intro _ (And.intro (c_hasPurse rfl h0 bK h2 bP) (And.intro (And.intro (Nat.zero_le _) (Nat.zero_le _)) (fun q h' hpo => ?_)))
  obtain ⟨rfl, rfl⟩ := hpo
  cases hb : (x_ixb x (v 2 0 0) && x_ixb y (v 0 0 0)) with
  | false =>
    refine And.intro (fun _ => ?_) (fun c => absurd rfl c)
    refine Exists.intro _ (And.intro c_refuse (And.intro (And.intro (Nat.zero_le _) (Nat.zero_le _)) (fun q h' hpo => ?_)))
    obtain ⟨rfl, rfl⟩ := hpo
    refine And.intro ?_ ⟨trivial, Nat.le_refl _, Nat.le_refl _⟩
    exact x_PC_0 (by decide) hC
  | true =>
    refine And.intro (fun c => absurd c (by decide)) (fun _ => ?_)
    refine Exists.intro _ (And.intro c_isAmount (And.intro (And.intro (Nat.zero_le _) (Nat.zero_le _)) (fun q h' hpo => ?_)))
    obtain ⟨rfl, rfl⟩ := hpo
    cases hz : x_wi z 1 999 with
    | false =>
      refine And.intro (fun c => absurd rfl c) (fun _ => ?_)
      refine Exists.intro _ (And.intro c_refuse (And.intro (And.intro (Nat.zero_le _) (Nat.zero_le _)) (fun q h' hpo => ?_)))
      obtain ⟨rfl, rfl⟩ := hpo
      refine And.intro ?_ ⟨trivial, Nat.le_refl _, Nat.le_refl _⟩
      exact x_PC_0 (by decide) hC
    | true =>
      refine And.intro (fun _ => ?_) (fun c => absurd c (by decide))
      rw [Bool.and_eq_true] at hb
      obtain ⟨p, hp, rfl⟩ := x_ixb_t hb.1 (by omega)
      obtain ⟨k, hk, rfl⟩ := x_ixb_t hb.2 (by omega)
      obtain ⟨m, hm1, hm, rfl⟩ := x_wi_t (lo := 1) (hi := 999) hz (by decide) (by decide)
      rw [x_c, x_c, x_c, nI_clamp (by omega), nI_clamp (by omega), nI_clamp (by omega)]
      have o13 : v_ok v 13 p k := show p < v 2 0 0 ∧ k < v 0 0 0 from ⟨by omega, by omega⟩
      have h13 : f 19 (4 * p + k) = nI (v 13 p k) := hC.1 13 p k o13
      have b13 : v 13 p k ≤ 9999 := (hB.1 13 p k o13).2
      have o14 : v_ok v 14 p k := show p < v 2 0 0 ∧ k < v 0 0 0 from ⟨by omega, by omega⟩
      have h14 : f 20 (4 * p + k) = nI (v 14 p k) := hC.1 14 p k o14
      have b14 : v 14 p k ≤ 9999 := (hB.1 14 p k o14).2
      unfold s_cross
      refine Exists.intro _ (And.intro (c_carryOut_12 hC hB hp hk hm) (And.intro (And.intro (Nat.zero_le _) (Nat.zero_le _)) (fun q h' hpo => ?_)))
      by_cases hc : v 13 p k < m ∨ 99999 < v 12 p 0 + d_got v k m
      · rw [if_pos hc] at hpo
        rw [if_pos hc]
        obtain ⟨rfl, rfl⟩ := hpo
        refine Exists.intro _ (And.intro c_ifDone (And.intro (And.intro (Nat.zero_le _) (Nat.zero_le _)) (fun q h' hpo => ?_)))
        obtain ⟨rfl, rfl⟩ := hpo
        refine And.intro ?_ ⟨trivial, Nat.le_refl _, Nat.le_refl _⟩
        rw [if_pos rfl]
        exact x_PC_0 (by decide) hC
      · rw [if_neg hc] at hpo
        rw [if_neg hc]
        obtain ⟨F, G, rfl, rfl, hC', hg', hf'⟩ := hpo
        refine Exists.intro _ (And.intro c_ifDone (And.intro (And.intro (Nat.zero_le _) (Nat.zero_le _)) (fun q h' hpo => ?_)))
        obtain ⟨rfl, rfl⟩ := hpo
        refine And.intro ?_ ⟨trivial, Nat.le_refl _, Nat.le_refl _⟩
        rw [if_neg (x_nIm (by omega))]
        exact x_PC_F (by decide) hC' hg' hf'
theorem c_pay_22 {x y z : Int32} (hC : v_C f g 22 v) (hB : v_B v) : x_Ct 116 (d + 4) [.ref 0, .int x, .int y, .int z] (f, g, x_HR 22 t, dm, n) (x_PC f g 22 (x_HR 22 t) dm n (sp_pay v x y z)) := by
  have bK := v_B_K hB
  have bG := v_B_G hB
  have bP := v_B_P hB
  have o0 : v_ok v 0 0 0 := ⟨rfl, rfl⟩
  have h0 : f 22 0 = nI (v 0 0 0) := hC.1 0 0 0 o0
  have b0 : v 0 0 0 ≤ 4 := (hB.1 0 0 0 o0).2
  have o2 : v_ok v 2 0 0 := ⟨rfl, rfl⟩
  have h2 : f 22 2 = nI (v 2 0 0) := hC.1 2 0 0 o2
  have b2 : v 2 0 0 ≤ 5 := (hB.1 2 0 0 o2).2
  unfold sp_pay
  refine x_Ct_w (by decide) (Nat.le_of_ble_eq_true rfl) ok116 [] 8 ?_
  refine Exists.intro _ (And.intro (c_hasPurse rfl h0 bK h2 bP) (And.intro (And.intro (Nat.zero_le _) (Nat.zero_le _)) (fun q h' hpo => ?_)))
  obtain ⟨rfl, rfl⟩ := hpo
  cases hb : (x_ixb x (v 2 0 0) && x_ixb y (v 0 0 0)) with
  | false =>
    refine And.intro (fun _ => ?_) (fun c => absurd rfl c)
    refine Exists.intro _ (And.intro c_refuse (And.intro (And.intro (Nat.zero_le _) (Nat.zero_le _)) (fun q h' hpo => ?_)))
    obtain ⟨rfl, rfl⟩ := hpo
    refine And.intro ?_ ⟨trivial, Nat.le_refl _, Nat.le_refl _⟩
    exact x_PC_0 (by decide) hC
  | true =>
    refine And.intro (fun c => absurd c (by decide)) (fun _ => ?_)
    refine Exists.intro _ (And.intro c_isAmount (And.intro (And.intro (Nat.zero_le _) (Nat.zero_le _)) (fun q h' hpo => ?_)))
    obtain ⟨rfl, rfl⟩ := hpo
    cases hz : x_wi z 1 999 with
    | false =>
      refine And.intro (fun c => absurd rfl c) (fun _ => ?_)
      refine Exists.intro _ (And.intro c_refuse (And.intro (And.intro (Nat.zero_le _) (Nat.zero_le _)) (fun q h' hpo => ?_)))
      obtain ⟨rfl, rfl⟩ := hpo
      refine And.intro ?_ ⟨trivial, Nat.le_refl _, Nat.le_refl _⟩
      exact x_PC_0 (by decide) hC
    | true =>
      refine And.intro (fun _ => ?_) (fun c => absurd c (by decide))
      rw [Bool.and_eq_true] at hb
      obtain ⟨p, hp, rfl⟩ := x_ixb_t hb.1 (by omega)
      obtain ⟨k, hk, rfl⟩ := x_ixb_t hb.2 (by omega)
      obtain ⟨m, hm1, hm, rfl⟩ := x_wi_t (lo := 1) (hi := 999) hz (by decide) (by decide)
      rw [x_c, x_c, x_c, nI_clamp (by omega), nI_clamp (by omega), nI_clamp (by omega)]
      have o13 : v_ok v 13 p k := show p < v 2 0 0 ∧ k < v 0 0 0 from ⟨by omega, by omega⟩
      have h13 : f 29 (4 * p + k) = nI (v 13 p k) := hC.1 13 p k o13
      have b13 : v 13 p k ≤ 9999 := (hB.1 13 p k o13).2
      have o14 : v_ok v 14 p k := show p < v 2 0 0 ∧ k < v 0 0 0 from ⟨by omega, by omega⟩
      have h14 : f 30 (4 * p + k) = nI (v 14 p k) := hC.1 14 p k o14
      have b14 : v 14 p k ≤ 9999 := (hB.1 14 p k o14).2
      unfold s_pay
      refine Exists.intro _ (And.intro (c_printFor_22 hC hB hp hk hm) (And.intro (And.intro (Nat.zero_le _) (Nat.zero_le _)) (fun q h' hpo => ?_)))
      by_cases hc : 9999 < v 13 p k + m
      · rw [if_pos hc] at hpo
        rw [if_pos hc]
        obtain ⟨rfl, rfl⟩ := hpo
        refine Exists.intro _ (And.intro c_ifDone (And.intro (And.intro (Nat.zero_le _) (Nat.zero_le _)) (fun q h' hpo => ?_)))
        obtain ⟨rfl, rfl⟩ := hpo
        refine And.intro ?_ ⟨trivial, Nat.le_refl _, Nat.le_refl _⟩
        rw [if_pos rfl]
        exact x_PC_0 (by decide) hC
      · rw [if_neg hc] at hpo
        rw [if_neg hc]
        obtain ⟨F, G, rfl, rfl, hC', hg', hf'⟩ := hpo
        refine Exists.intro _ (And.intro c_ifDone (And.intro (And.intro (Nat.zero_le _) (Nat.zero_le _)) (fun q h' hpo => ?_)))
        obtain ⟨rfl, rfl⟩ := hpo
        refine And.intro ?_ ⟨trivial, Nat.le_refl _, Nat.le_refl _⟩
        rw [if_neg (x_nIm (by omega))]
        exact x_PC_F (by decide) hC' hg' hf'
theorem c_tear_22 {x y z : Int32} (hC : v_C f g 22 v) (hB : v_B v) : x_Ct 119 (d + 4) [.ref 0, .int x, .int y, .int z] (f, g, x_HR 22 t, dm, n) (x_PC f g 22 (x_HR 22 t) dm n (sp_tear v x y z)) := by
  have bK := v_B_K hB
  have bG := v_B_G hB
  have bP := v_B_P hB
  have o0 : v_ok v 0 0 0 := ⟨rfl, rfl⟩
  have h0 : f 22 0 = nI (v 0 0 0) := hC.1 0 0 0 o0
  have b0 : v 0 0 0 ≤ 4 := (hB.1 0 0 0 o0).2
  have o2 : v_ok v 2 0 0 := ⟨rfl, rfl⟩
  have h2 : f 22 2 = nI (v 2 0 0) := hC.1 2 0 0 o2
  have b2 : v 2 0 0 ≤ 5 := (hB.1 2 0 0 o2).2
  unfold sp_tear
  refine x_Ct_w (by decide) (Nat.le_of_ble_eq_true rfl) ok119 [] 8 ?_
  refine Exists.intro _ (And.intro (c_hasPurse rfl h0 bK h2 bP) (And.intro (And.intro (Nat.zero_le _) (Nat.zero_le _)) (fun q h' hpo => ?_)))
  obtain ⟨rfl, rfl⟩ := hpo
  cases hb : (x_ixb x (v 2 0 0) && x_ixb y (v 0 0 0)) with
  | false =>
    refine And.intro (fun _ => ?_) (fun c => absurd rfl c)
    refine Exists.intro _ (And.intro c_refuse (And.intro (And.intro (Nat.zero_le _) (Nat.zero_le _)) (fun q h' hpo => ?_)))
    obtain ⟨rfl, rfl⟩ := hpo
    refine And.intro ?_ ⟨trivial, Nat.le_refl _, Nat.le_refl _⟩
    exact x_PC_0 (by decide) hC
  | true =>
    refine And.intro (fun c => absurd c (by decide)) (fun _ => ?_)
    refine Exists.intro _ (And.intro c_isAmount (And.intro (And.intro (Nat.zero_le _) (Nat.zero_le _)) (fun q h' hpo => ?_)))
    obtain ⟨rfl, rfl⟩ := hpo
    cases hz : x_wi z 1 999 with
    | false =>
      refine And.intro (fun c => absurd rfl c) (fun _ => ?_)
      refine Exists.intro _ (And.intro c_refuse (And.intro (And.intro (Nat.zero_le _) (Nat.zero_le _)) (fun q h' hpo => ?_)))
      obtain ⟨rfl, rfl⟩ := hpo
      refine And.intro ?_ ⟨trivial, Nat.le_refl _, Nat.le_refl _⟩
      exact x_PC_0 (by decide) hC
    | true =>
      refine And.intro (fun _ => ?_) (fun c => absurd c (by decide))
      rw [Bool.and_eq_true] at hb
      obtain ⟨p, hp, rfl⟩ := x_ixb_t hb.1 (by omega)
      obtain ⟨k, hk, rfl⟩ := x_ixb_t hb.2 (by omega)
      obtain ⟨m, hm1, hm, rfl⟩ := x_wi_t (lo := 1) (hi := 999) hz (by decide) (by decide)
      rw [x_c, x_c, x_c, nI_clamp (by omega), nI_clamp (by omega), nI_clamp (by omega)]
      have o13 : v_ok v 13 p k := show p < v 2 0 0 ∧ k < v 0 0 0 from ⟨by omega, by omega⟩
      have h13 : f 29 (4 * p + k) = nI (v 13 p k) := hC.1 13 p k o13
      have b13 : v 13 p k ≤ 9999 := (hB.1 13 p k o13).2
      have o14 : v_ok v 14 p k := show p < v 2 0 0 ∧ k < v 0 0 0 from ⟨by omega, by omega⟩
      have h14 : f 30 (4 * p + k) = nI (v 14 p k) := hC.1 14 p k o14
      have b14 : v 14 p k ≤ 9999 := (hB.1 14 p k o14).2
      unfold s_tear
      refine Exists.intro _ (And.intro (c_tearUp_22 hC hB hp hk hm) (And.intro (And.intro (Nat.zero_le _) (Nat.zero_le _)) (fun q h' hpo => ?_)))
      by_cases hc : v 13 p k < m ∨ 9999 < v 14 p k + m
      · rw [if_pos hc] at hpo
        rw [if_pos hc]
        obtain ⟨rfl, rfl⟩ := hpo
        refine Exists.intro _ (And.intro c_ifDone (And.intro (And.intro (Nat.zero_le _) (Nat.zero_le _)) (fun q h' hpo => ?_)))
        obtain ⟨rfl, rfl⟩ := hpo
        refine And.intro ?_ ⟨trivial, Nat.le_refl _, Nat.le_refl _⟩
        rw [if_pos rfl]
        exact x_PC_0 (by decide) hC
      · rw [if_neg hc] at hpo
        rw [if_neg hc]
        obtain ⟨F, G, rfl, rfl, hC', hg', hf'⟩ := hpo
        refine Exists.intro _ (And.intro c_ifDone (And.intro (And.intro (Nat.zero_le _) (Nat.zero_le _)) (fun q h' hpo => ?_)))
        obtain ⟨rfl, rfl⟩ := hpo
        refine And.intro ?_ ⟨trivial, Nat.le_refl _, Nat.le_refl _⟩
        rw [if_neg (x_nIm (by omega))]
        exact x_PC_F (by decide) hC' hg' hf'
theorem c_mend_22 {x y z : Int32} (hC : v_C f g 22 v) (hB : v_B v) : x_Ct 120 (d + 4) [.ref 0, .int x, .int y, .int z] (f, g, x_HR 22 t, dm, n) (x_PC f g 22 (x_HR 22 t) dm n (sp_mend v x y z)) := by
  have bK := v_B_K hB
  have bG := v_B_G hB
  have bP := v_B_P hB
  have o0 : v_ok v 0 0 0 := ⟨rfl, rfl⟩
  have h0 : f 22 0 = nI (v 0 0 0) := hC.1 0 0 0 o0
  have b0 : v 0 0 0 ≤ 4 := (hB.1 0 0 0 o0).2
  have o2 : v_ok v 2 0 0 := ⟨rfl, rfl⟩
  have h2 : f 22 2 = nI (v 2 0 0) := hC.1 2 0 0 o2
  have b2 : v 2 0 0 ≤ 5 := (hB.1 2 0 0 o2).2
  unfold sp_mend
  refine x_Ct_w (by decide) (Nat.le_of_ble_eq_true rfl) ok120 [] 8 ?_
  refine Exists.intro _ (And.intro (c_hasPurse rfl h0 bK h2 bP) (And.intro (And.intro (Nat.zero_le _) (Nat.zero_le _)) (fun q h' hpo => ?_)))
  obtain ⟨rfl, rfl⟩ := hpo
  cases hb : (x_ixb x (v 2 0 0) && x_ixb y (v 0 0 0)) with
  | false =>
    refine And.intro (fun _ => ?_) (fun c => absurd rfl c)
    refine Exists.intro _ (And.intro c_refuse (And.intro (And.intro (Nat.zero_le _) (Nat.zero_le _)) (fun q h' hpo => ?_)))
    obtain ⟨rfl, rfl⟩ := hpo
    refine And.intro ?_ ⟨trivial, Nat.le_refl _, Nat.le_refl _⟩
    exact x_PC_0 (by decide) hC
  | true =>
    refine And.intro (fun c => absurd c (by decide)) (fun _ => ?_)
    refine Exists.intro _ (And.intro c_isAmount (And.intro (And.intro (Nat.zero_le _) (Nat.zero_le _)) (fun q h' hpo => ?_)))
    obtain ⟨rfl, rfl⟩ := hpo
    cases hz : x_wi z 1 999 with
    | false =>
      refine And.intro (fun c => absurd rfl c) (fun _ => ?_)
      refine Exists.intro _ (And.intro c_refuse (And.intro (And.intro (Nat.zero_le _) (Nat.zero_le _)) (fun q h' hpo => ?_)))
      obtain ⟨rfl, rfl⟩ := hpo
      refine And.intro ?_ ⟨trivial, Nat.le_refl _, Nat.le_refl _⟩
      exact x_PC_0 (by decide) hC
    | true =>
      refine And.intro (fun _ => ?_) (fun c => absurd c (by decide))
      rw [Bool.and_eq_true] at hb
      obtain ⟨p, hp, rfl⟩ := x_ixb_t hb.1 (by omega)
      obtain ⟨k, hk, rfl⟩ := x_ixb_t hb.2 (by omega)
      obtain ⟨m, hm1, hm, rfl⟩ := x_wi_t (lo := 1) (hi := 999) hz (by decide) (by decide)
      rw [x_c, x_c, x_c, nI_clamp (by omega), nI_clamp (by omega), nI_clamp (by omega)]
      have o13 : v_ok v 13 p k := show p < v 2 0 0 ∧ k < v 0 0 0 from ⟨by omega, by omega⟩
      have h13 : f 29 (4 * p + k) = nI (v 13 p k) := hC.1 13 p k o13
      have b13 : v 13 p k ≤ 9999 := (hB.1 13 p k o13).2
      have o14 : v_ok v 14 p k := show p < v 2 0 0 ∧ k < v 0 0 0 from ⟨by omega, by omega⟩
      have h14 : f 30 (4 * p + k) = nI (v 14 p k) := hC.1 14 p k o14
      have b14 : v 14 p k ≤ 9999 := (hB.1 14 p k o14).2
      unfold s_mend
      refine Exists.intro _ (And.intro (c_mendTorn_22 hC hB hp hk hm) (And.intro (And.intro (Nat.zero_le _) (Nat.zero_le _)) (fun q h' hpo => ?_)))
      by_cases hc : v 14 p k < m
      · rw [if_pos hc] at hpo
        rw [if_pos hc]
        obtain ⟨rfl, rfl⟩ := hpo
        refine Exists.intro _ (And.intro c_ifDone (And.intro (And.intro (Nat.zero_le _) (Nat.zero_le _)) (fun q h' hpo => ?_)))
        obtain ⟨rfl, rfl⟩ := hpo
        refine And.intro ?_ ⟨trivial, Nat.le_refl _, Nat.le_refl _⟩
        rw [if_pos rfl]
        exact x_PC_0 (by decide) hC
      · rw [if_neg hc] at hpo
        rw [if_neg hc]
        obtain ⟨F, G, rfl, rfl, hC', hg', hf'⟩ := hpo
        refine Exists.intro _ (And.intro c_ifDone (And.intro (And.intro (Nat.zero_le _) (Nat.zero_le _)) (fun q h' hpo => ?_)))
        obtain ⟨rfl, rfl⟩ := hpo
        refine And.intro ?_ ⟨trivial, Nat.le_refl _, Nat.le_refl _⟩
        rw [if_neg (x_nIm (by have : d_back v p k m ≤ m - d_kept v m := Nat.min_le_left _ _; omega))]
        exact x_PC_F (by decide) hC' hg' hf'
theorem c_burn_22 {x y z : Int32} (hC : v_C f g 22 v) (hB : v_B v) : x_Ct 122 (d + 4) [.ref 0, .int x, .int y, .int z] (f, g, x_HR 22 t, dm, n) (x_PC f g 22 (x_HR 22 t) dm n (sp_burn v x y z)) := by
  have bK := v_B_K hB
  have bG := v_B_G hB
  have bP := v_B_P hB
  have o0 : v_ok v 0 0 0 := ⟨rfl, rfl⟩
  have h0 : f 22 0 = nI (v 0 0 0) := hC.1 0 0 0 o0
  have b0 : v 0 0 0 ≤ 4 := (hB.1 0 0 0 o0).2
  have o2 : v_ok v 2 0 0 := ⟨rfl, rfl⟩
  have h2 : f 22 2 = nI (v 2 0 0) := hC.1 2 0 0 o2
  have b2 : v 2 0 0 ≤ 5 := (hB.1 2 0 0 o2).2
  unfold sp_burn
  refine x_Ct_w (by decide) (Nat.le_of_ble_eq_true rfl) ok122 [] 8 ?_
  refine Exists.intro _ (And.intro (c_hasPurse rfl h0 bK h2 bP) (And.intro (And.intro (Nat.zero_le _) (Nat.zero_le _)) (fun q h' hpo => ?_)))
  obtain ⟨rfl, rfl⟩ := hpo
  cases hb : (x_ixb x (v 2 0 0) && x_ixb y (v 0 0 0)) with
  | false =>
    refine And.intro (fun _ => ?_) (fun c => absurd rfl c)
    refine Exists.intro _ (And.intro c_refuse (And.intro (And.intro (Nat.zero_le _) (Nat.zero_le _)) (fun q h' hpo => ?_)))
    obtain ⟨rfl, rfl⟩ := hpo
    refine And.intro ?_ ⟨trivial, Nat.le_refl _, Nat.le_refl _⟩
    exact x_PC_0 (by decide) hC
  | true =>
    refine And.intro (fun c => absurd c (by decide)) (fun _ => ?_)
    refine Exists.intro _ (And.intro c_isAmount (And.intro (And.intro (Nat.zero_le _) (Nat.zero_le _)) (fun q h' hpo => ?_)))
    obtain ⟨rfl, rfl⟩ := hpo
    cases hz : x_wi z 1 999 with
    | false =>
      refine And.intro (fun c => absurd rfl c) (fun _ => ?_)
      refine Exists.intro _ (And.intro c_refuse (And.intro (And.intro (Nat.zero_le _) (Nat.zero_le _)) (fun q h' hpo => ?_)))
      obtain ⟨rfl, rfl⟩ := hpo
      refine And.intro ?_ ⟨trivial, Nat.le_refl _, Nat.le_refl _⟩
      exact x_PC_0 (by decide) hC
    | true =>
      refine And.intro (fun _ => ?_) (fun c => absurd c (by decide))
      rw [Bool.and_eq_true] at hb
      obtain ⟨p, hp, rfl⟩ := x_ixb_t hb.1 (by omega)
      obtain ⟨k, hk, rfl⟩ := x_ixb_t hb.2 (by omega)
      obtain ⟨m, hm1, hm, rfl⟩ := x_wi_t (lo := 1) (hi := 999) hz (by decide) (by decide)
      rw [x_c, x_c, x_c, nI_clamp (by omega), nI_clamp (by omega), nI_clamp (by omega)]
      have o13 : v_ok v 13 p k := show p < v 2 0 0 ∧ k < v 0 0 0 from ⟨by omega, by omega⟩
      have h13 : f 29 (4 * p + k) = nI (v 13 p k) := hC.1 13 p k o13
      have b13 : v 13 p k ≤ 9999 := (hB.1 13 p k o13).2
      have o14 : v_ok v 14 p k := show p < v 2 0 0 ∧ k < v 0 0 0 from ⟨by omega, by omega⟩
      have h14 : f 30 (4 * p + k) = nI (v 14 p k) := hC.1 14 p k o14
      have b14 : v 14 p k ≤ 9999 := (hB.1 14 p k o14).2
      unfold s_burn
      refine Exists.intro _ (And.intro (c_burnWhole_22 hC hB hp hk hm) (And.intro (And.intro (Nat.zero_le _) (Nat.zero_le _)) (fun q h' hpo => ?_)))
      by_cases hc : v 13 p k < m
      · rw [if_pos hc] at hpo
        rw [if_pos hc]
        obtain ⟨rfl, rfl⟩ := hpo
        refine Exists.intro _ (And.intro c_ifDone (And.intro (And.intro (Nat.zero_le _) (Nat.zero_le _)) (fun q h' hpo => ?_)))
        obtain ⟨rfl, rfl⟩ := hpo
        refine And.intro ?_ ⟨trivial, Nat.le_refl _, Nat.le_refl _⟩
        rw [if_pos rfl]
        exact x_PC_0 (by decide) hC
      · rw [if_neg hc] at hpo
        rw [if_neg hc]
        obtain ⟨F, G, rfl, rfl, hC', hg', hf'⟩ := hpo
        refine Exists.intro _ (And.intro c_ifDone (And.intro (And.intro (Nat.zero_le _) (Nat.zero_le _)) (fun q h' hpo => ?_)))
        obtain ⟨rfl, rfl⟩ := hpo
        refine And.intro ?_ ⟨trivial, Nat.le_refl _, Nat.le_refl _⟩
        rw [if_neg (x_nIm (by omega))]
        exact x_PC_F (by decide) hC' hg' hf'
theorem c_cross_22 {x y z : Int32} (hC : v_C f g 22 v) (hB : v_B v) : x_Ct 123 (d + 4) [.ref 0, .int x, .int y, .int z] (f, g, x_HR 22 t, dm, n) (x_PC f g 22 (x_HR 22 t) dm n (sp_cross v x y z)) := by
  have bK := v_B_K hB
  have bG := v_B_G hB
  have bP := v_B_P hB
  have o0 : v_ok v 0 0 0 := ⟨rfl, rfl⟩
  have h0 : f 22 0 = nI (v 0 0 0) := hC.1 0 0 0 o0
  have b0 : v 0 0 0 ≤ 4 := (hB.1 0 0 0 o0).2
  have o2 : v_ok v 2 0 0 := ⟨rfl, rfl⟩
  have h2 : f 22 2 = nI (v 2 0 0) := hC.1 2 0 0 o2
  have b2 : v 2 0 0 ≤ 5 := (hB.1 2 0 0 o2).2
  unfold sp_cross
  refine x_Ct_w (by decide) (Nat.le_of_ble_eq_true rfl) ok123 [] 8 ?_
  refine Exists.intro _ (And.intro (c_hasPurse rfl h0 bK h2 bP) (And.intro (And.intro (Nat.zero_le _) (Nat.zero_le _)) (fun q h' hpo => ?_)))
  obtain ⟨rfl, rfl⟩ := hpo
  cases hb : (x_ixb x (v 2 0 0) && x_ixb y (v 0 0 0)) with
  | false =>
    refine And.intro (fun _ => ?_) (fun c => absurd rfl c)
    refine Exists.intro _ (And.intro c_refuse (And.intro (And.intro (Nat.zero_le _) (Nat.zero_le _)) (fun q h' hpo => ?_)))
    obtain ⟨rfl, rfl⟩ := hpo
    refine And.intro ?_ ⟨trivial, Nat.le_refl _, Nat.le_refl _⟩
    exact x_PC_0 (by decide) hC
  | true =>
    refine And.intro (fun c => absurd c (by decide)) (fun _ => ?_)
    refine Exists.intro _ (And.intro c_isAmount (And.intro (And.intro (Nat.zero_le _) (Nat.zero_le _)) (fun q h' hpo => ?_)))
    obtain ⟨rfl, rfl⟩ := hpo
    cases hz : x_wi z 1 999 with
    | false =>
      refine And.intro (fun c => absurd rfl c) (fun _ => ?_)
      refine Exists.intro _ (And.intro c_refuse (And.intro (And.intro (Nat.zero_le _) (Nat.zero_le _)) (fun q h' hpo => ?_)))
      obtain ⟨rfl, rfl⟩ := hpo
      refine And.intro ?_ ⟨trivial, Nat.le_refl _, Nat.le_refl _⟩
      exact x_PC_0 (by decide) hC
    | true =>
      refine And.intro (fun _ => ?_) (fun c => absurd c (by decide))
      rw [Bool.and_eq_true] at hb
      obtain ⟨p, hp, rfl⟩ := x_ixb_t hb.1 (by omega)
      obtain ⟨k, hk, rfl⟩ := x_ixb_t hb.2 (by omega)
      obtain ⟨m, hm1, hm, rfl⟩ := x_wi_t (lo := 1) (hi := 999) hz (by decide) (by decide)
      rw [x_c, x_c, x_c, nI_clamp (by omega), nI_clamp (by omega), nI_clamp (by omega)]
      have o13 : v_ok v 13 p k := show p < v 2 0 0 ∧ k < v 0 0 0 from ⟨by omega, by omega⟩
      have h13 : f 29 (4 * p + k) = nI (v 13 p k) := hC.1 13 p k o13
      have b13 : v 13 p k ≤ 9999 := (hB.1 13 p k o13).2
      have o14 : v_ok v 14 p k := show p < v 2 0 0 ∧ k < v 0 0 0 from ⟨by omega, by omega⟩
      have h14 : f 30 (4 * p + k) = nI (v 14 p k) := hC.1 14 p k o14
      have b14 : v 14 p k ≤ 9999 := (hB.1 14 p k o14).2
      unfold s_cross
      refine Exists.intro _ (And.intro (c_carryOut_22 hC hB hp hk hm) (And.intro (And.intro (Nat.zero_le _) (Nat.zero_le _)) (fun q h' hpo => ?_)))
      by_cases hc : v 13 p k < m ∨ 99999 < v 12 p 0 + d_got v k m
      · rw [if_pos hc] at hpo
        rw [if_pos hc]
        obtain ⟨rfl, rfl⟩ := hpo
        refine Exists.intro _ (And.intro c_ifDone (And.intro (And.intro (Nat.zero_le _) (Nat.zero_le _)) (fun q h' hpo => ?_)))
        obtain ⟨rfl, rfl⟩ := hpo
        refine And.intro ?_ ⟨trivial, Nat.le_refl _, Nat.le_refl _⟩
        rw [if_pos rfl]
        exact x_PC_0 (by decide) hC
      · rw [if_neg hc] at hpo
        rw [if_neg hc]
        obtain ⟨F, G, rfl, rfl, hC', hg', hf'⟩ := hpo
        refine Exists.intro _ (And.intro c_ifDone (And.intro (And.intro (Nat.zero_le _) (Nat.zero_le _)) (fun q h' hpo => ?_)))
        obtain ⟨rfl, rfl⟩ := hpo
        refine And.intro ?_ ⟨trivial, Nat.le_refl _, Nat.le_refl _⟩
        rw [if_neg (x_nIm (by omega))]
        exact x_PC_F (by decide) hC' hg' hf'
end C23
