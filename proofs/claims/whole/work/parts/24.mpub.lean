section C24
variable {f : Nat → Nat → Int32} {g : Nat → Nat → Int64} {r t : Nat} {ρ : Nat → Nat → Option Nat} {dm : List Nat} {n d : Nat} {v : xV} {h : xH}
theorem m_pay {x y z : Int32} (hM : v_M (f 501) 0 v) (hB : v_B v) : x_Ct 252 (d + 4) [.ref 500, .int x, .int y, .int z] (f, g, x_HR r t, dm, n) (x_PM f g (x_HR r t) dm n (sp_pay v x y z)) := by
  have bK := v_B_K hB
  have bG := v_B_G hB
  have bP := v_B_P hB
  have o0 : v_ok v 0 0 0 := ⟨rfl, rfl⟩
  have h0 : f 501 0 = nI (v 0 0 0) := v_M_at hM o0
  have b0 : v 0 0 0 ≤ 4 := (hB.1 0 0 0 o0).2
  have o2 : v_ok v 2 0 0 := ⟨rfl, rfl⟩
  have h2 : f 501 2 = nI (v 2 0 0) := v_M_at hM o2
  have b2 : v 2 0 0 ≤ 5 := (hB.1 2 0 0 o2).2
  unfold sp_pay
  refine x_Ct_w (by decide) (Nat.le_of_ble_eq_true rfl) ok252 [] 8 ?_
  refine Exists.intro _ (And.intro (m_isSheet h0 (by omega) h2 (by omega)) (And.intro (And.intro (Nat.zero_le _) (Nat.zero_le _)) (fun q h' hpo => ?_)))
  obtain ⟨rfl, rfl⟩ := hpo
  cases hb : (x_ixb x (v 2 0 0) && x_ixb y (v 0 0 0)) with
  | false =>
    refine And.intro (fun _ => ?_) (fun c => absurd rfl c)
    refine Exists.intro _ (And.intro m_refuse (And.intro (And.intro (Nat.zero_le _) (Nat.zero_le _)) (fun q h' hpo => ?_)))
    obtain ⟨rfl, rfl⟩ := hpo
    refine And.intro ?_ ⟨trivial, Nat.le_refl _, Nat.le_refl _⟩
    exact x_PM_0 hM
  | true =>
    refine And.intro (fun c => absurd c (by decide)) (fun _ => ?_)
    refine Exists.intro _ (And.intro m_isMany (And.intro (And.intro (Nat.zero_le _) (Nat.zero_le _)) (fun q h' hpo => ?_)))
    obtain ⟨rfl, rfl⟩ := hpo
    cases hz : x_wi z 1 999 with
    | false =>
      refine And.intro (fun c => absurd rfl c) (fun _ => ?_)
      refine Exists.intro _ (And.intro m_refuse (And.intro (And.intro (Nat.zero_le _) (Nat.zero_le _)) (fun q h' hpo => ?_)))
      obtain ⟨rfl, rfl⟩ := hpo
      refine And.intro ?_ ⟨trivial, Nat.le_refl _, Nat.le_refl _⟩
      exact x_PM_0 hM
    | true =>
      refine And.intro (fun _ => ?_) (fun c => absurd c (by decide))
      rw [Bool.and_eq_true] at hb
      obtain ⟨p, hp, rfl⟩ := x_ixb_t hb.1 (by omega)
      obtain ⟨k, hk, rfl⟩ := x_ixb_t hb.2 (by omega)
      obtain ⟨m, hm1, hm, rfl⟩ := x_wi_t (lo := 1) (hi := 999) hz (by decide) (by decide)
      rw [x_c, x_c, x_c, nI_clamp (by omega), nI_clamp (by omega), nI_clamp (by omega)]
      refine Exists.intro _ (And.intro (m_pays hM hB hp hk hm) (And.intro (And.intro (Nat.zero_le _) (Nat.zero_le _)) (fun q h' hpo => ?_)))
      cases ho : s_pay v p k m with
      | none =>
        rw [ho] at hpo
        obtain ⟨F, rfl, rfl, hF⟩ := hpo
        refine And.intro (fun _ => ?_) (fun c => absurd rfl c)
        refine Exists.intro _ (And.intro m_refuse (And.intro (And.intro (Nat.zero_le _) (Nat.zero_le _)) (fun q h' hpo => ?_)))
        obtain ⟨rfl, rfl⟩ := hpo
        refine And.intro ?_ ⟨trivial, Nat.le_refl _, Nat.le_refl _⟩
        exact x_PM_L hF
      | some S =>
        rw [ho] at hpo
        obtain ⟨F, rfl, rfl, hF⟩ := hpo
        have e1 : x_i (F, g, x_HR r t, dm, n) 501 (27 + 14 * p + k) = S.1 := by
          unfold s_pay at ho
          split at ho
          · cases ho
          · cases ho
            exact (v_M_at hF.1 (c := 13) (i := p) (j := k) (show p < v 2 0 0 ∧ k < v 0 0 0 from ⟨hp, hk⟩)).trans (congrArg nI (by show d_pay v p k m 13 p k = _; unfold d_pay; rw [v_set_c (by decide), v_set_s]))
        refine And.intro (fun c => absurd (show (1 : Int32) = 0 from c) (by decide)) (fun _ => ?_)
        refine Exists.intro _ (And.intro m_wholeAt (And.intro (And.intro (Nat.zero_le _) (Nat.zero_le _)) (fun q h' hpo => ?_)))
        obtain ⟨rfl, rfl⟩ := hpo
        refine And.intro (x_ix_nI (by omega) (by omega)) ?_
        rw [nI_clamp (by omega)]
        refine Exists.intro _ (And.intro m_gives (And.intro (And.intro (Nat.zero_le _) (Nat.zero_le _)) (fun q h' hpo => ?_)))
        obtain ⟨rfl, rfl⟩ := hpo
        refine And.intro ?_ ⟨trivial, Nat.le_refl _, Nat.le_refl _⟩
        rw [e1]
        exact x_PM_L hF
theorem m_tear {x y z : Int32} (hM : v_M (f 501) 0 v) (hB : v_B v) : x_Ct 258 (d + 4) [.ref 500, .int x, .int y, .int z] (f, g, x_HR r t, dm, n) (x_PM f g (x_HR r t) dm n (sp_tear v x y z)) := by
  have bK := v_B_K hB
  have bG := v_B_G hB
  have bP := v_B_P hB
  have o0 : v_ok v 0 0 0 := ⟨rfl, rfl⟩
  have h0 : f 501 0 = nI (v 0 0 0) := v_M_at hM o0
  have b0 : v 0 0 0 ≤ 4 := (hB.1 0 0 0 o0).2
  have o2 : v_ok v 2 0 0 := ⟨rfl, rfl⟩
  have h2 : f 501 2 = nI (v 2 0 0) := v_M_at hM o2
  have b2 : v 2 0 0 ≤ 5 := (hB.1 2 0 0 o2).2
  unfold sp_tear
  refine x_Ct_w (by decide) (Nat.le_of_ble_eq_true rfl) ok258 [] 8 ?_
  refine Exists.intro _ (And.intro (m_isSheet h0 (by omega) h2 (by omega)) (And.intro (And.intro (Nat.zero_le _) (Nat.zero_le _)) (fun q h' hpo => ?_)))
  obtain ⟨rfl, rfl⟩ := hpo
  cases hb : (x_ixb x (v 2 0 0) && x_ixb y (v 0 0 0)) with
  | false =>
    refine And.intro (fun _ => ?_) (fun c => absurd rfl c)
    refine Exists.intro _ (And.intro m_refuse (And.intro (And.intro (Nat.zero_le _) (Nat.zero_le _)) (fun q h' hpo => ?_)))
    obtain ⟨rfl, rfl⟩ := hpo
    refine And.intro ?_ ⟨trivial, Nat.le_refl _, Nat.le_refl _⟩
    exact x_PM_0 hM
  | true =>
    refine And.intro (fun c => absurd c (by decide)) (fun _ => ?_)
    refine Exists.intro _ (And.intro m_isMany (And.intro (And.intro (Nat.zero_le _) (Nat.zero_le _)) (fun q h' hpo => ?_)))
    obtain ⟨rfl, rfl⟩ := hpo
    cases hz : x_wi z 1 999 with
    | false =>
      refine And.intro (fun c => absurd rfl c) (fun _ => ?_)
      refine Exists.intro _ (And.intro m_refuse (And.intro (And.intro (Nat.zero_le _) (Nat.zero_le _)) (fun q h' hpo => ?_)))
      obtain ⟨rfl, rfl⟩ := hpo
      refine And.intro ?_ ⟨trivial, Nat.le_refl _, Nat.le_refl _⟩
      exact x_PM_0 hM
    | true =>
      refine And.intro (fun _ => ?_) (fun c => absurd c (by decide))
      rw [Bool.and_eq_true] at hb
      obtain ⟨p, hp, rfl⟩ := x_ixb_t hb.1 (by omega)
      obtain ⟨k, hk, rfl⟩ := x_ixb_t hb.2 (by omega)
      obtain ⟨m, hm1, hm, rfl⟩ := x_wi_t (lo := 1) (hi := 999) hz (by decide) (by decide)
      rw [x_c, x_c, x_c, nI_clamp (by omega), nI_clamp (by omega), nI_clamp (by omega)]
      refine Exists.intro _ (And.intro (m_tears hM hB hp hk hm) (And.intro (And.intro (Nat.zero_le _) (Nat.zero_le _)) (fun q h' hpo => ?_)))
      cases ho : s_tear v p k m with
      | none =>
        rw [ho] at hpo
        obtain ⟨F, rfl, rfl, hF⟩ := hpo
        refine And.intro (fun _ => ?_) (fun c => absurd rfl c)
        refine Exists.intro _ (And.intro m_refuse (And.intro (And.intro (Nat.zero_le _) (Nat.zero_le _)) (fun q h' hpo => ?_)))
        obtain ⟨rfl, rfl⟩ := hpo
        refine And.intro ?_ ⟨trivial, Nat.le_refl _, Nat.le_refl _⟩
        exact x_PM_L hF
      | some S =>
        rw [ho] at hpo
        obtain ⟨F, rfl, rfl, hF⟩ := hpo
        have e1 : x_i (F, g, x_HR r t, dm, n) 501 (31 + 14 * p + k) = S.1 := by
          unfold s_tear at ho
          split at ho
          · cases ho
          · cases ho
            exact (v_M_at hF.1 (c := 14) (i := p) (j := k) (show p < v 2 0 0 ∧ k < v 0 0 0 from ⟨hp, hk⟩)).trans (congrArg nI (by show d_tear v p k m 14 p k = _; unfold d_tear; rw [v_set_s]))
        refine And.intro (fun c => absurd (show (1 : Int32) = 0 from c) (by decide)) (fun _ => ?_)
        refine Exists.intro _ (And.intro m_tornAt (And.intro (And.intro (Nat.zero_le _) (Nat.zero_le _)) (fun q h' hpo => ?_)))
        obtain ⟨rfl, rfl⟩ := hpo
        refine And.intro (x_ix_nI (by omega) (by omega)) ?_
        rw [nI_clamp (by omega)]
        refine Exists.intro _ (And.intro m_gives (And.intro (And.intro (Nat.zero_le _) (Nat.zero_le _)) (fun q h' hpo => ?_)))
        obtain ⟨rfl, rfl⟩ := hpo
        refine And.intro ?_ ⟨trivial, Nat.le_refl _, Nat.le_refl _⟩
        rw [e1]
        exact x_PM_L hF
theorem m_mend {x y z : Int32} (hM : v_M (f 501) 0 v) (hB : v_B v) : x_Ct 261 (d + 4) [.ref 500, .int x, .int y, .int z] (f, g, x_HR r t, dm, n) (x_PM f g (x_HR r t) dm n (sp_mend v x y z)) := by
  have bK := v_B_K hB
  have bG := v_B_G hB
  have bP := v_B_P hB
  have o0 : v_ok v 0 0 0 := ⟨rfl, rfl⟩
  have h0 : f 501 0 = nI (v 0 0 0) := v_M_at hM o0
  have b0 : v 0 0 0 ≤ 4 := (hB.1 0 0 0 o0).2
  have o2 : v_ok v 2 0 0 := ⟨rfl, rfl⟩
  have h2 : f 501 2 = nI (v 2 0 0) := v_M_at hM o2
  have b2 : v 2 0 0 ≤ 5 := (hB.1 2 0 0 o2).2
  unfold sp_mend
  refine x_Ct_w (by decide) (Nat.le_of_ble_eq_true rfl) ok261 [] 8 ?_
  refine Exists.intro _ (And.intro (m_isSheet h0 (by omega) h2 (by omega)) (And.intro (And.intro (Nat.zero_le _) (Nat.zero_le _)) (fun q h' hpo => ?_)))
  obtain ⟨rfl, rfl⟩ := hpo
  cases hb : (x_ixb x (v 2 0 0) && x_ixb y (v 0 0 0)) with
  | false =>
    refine And.intro (fun _ => ?_) (fun c => absurd rfl c)
    refine Exists.intro _ (And.intro m_refuse (And.intro (And.intro (Nat.zero_le _) (Nat.zero_le _)) (fun q h' hpo => ?_)))
    obtain ⟨rfl, rfl⟩ := hpo
    refine And.intro ?_ ⟨trivial, Nat.le_refl _, Nat.le_refl _⟩
    exact x_PM_0 hM
  | true =>
    refine And.intro (fun c => absurd c (by decide)) (fun _ => ?_)
    refine Exists.intro _ (And.intro m_isMany (And.intro (And.intro (Nat.zero_le _) (Nat.zero_le _)) (fun q h' hpo => ?_)))
    obtain ⟨rfl, rfl⟩ := hpo
    cases hz : x_wi z 1 999 with
    | false =>
      refine And.intro (fun c => absurd rfl c) (fun _ => ?_)
      refine Exists.intro _ (And.intro m_refuse (And.intro (And.intro (Nat.zero_le _) (Nat.zero_le _)) (fun q h' hpo => ?_)))
      obtain ⟨rfl, rfl⟩ := hpo
      refine And.intro ?_ ⟨trivial, Nat.le_refl _, Nat.le_refl _⟩
      exact x_PM_0 hM
    | true =>
      refine And.intro (fun _ => ?_) (fun c => absurd c (by decide))
      rw [Bool.and_eq_true] at hb
      obtain ⟨p, hp, rfl⟩ := x_ixb_t hb.1 (by omega)
      obtain ⟨k, hk, rfl⟩ := x_ixb_t hb.2 (by omega)
      obtain ⟨m, hm1, hm, rfl⟩ := x_wi_t (lo := 1) (hi := 999) hz (by decide) (by decide)
      rw [x_c, x_c, x_c, nI_clamp (by omega), nI_clamp (by omega), nI_clamp (by omega)]
      refine Exists.intro _ (And.intro (m_mends hM hB hp hk hm) (And.intro (And.intro (Nat.zero_le _) (Nat.zero_le _)) (fun q h' hpo => ?_)))
      unfold s_mend
      unfold s_mend at hpo
      by_cases hc : v 14 p k < m
      · rw [if_pos hc] at hpo
        rw [if_pos hc]
        obtain ⟨F, rfl, rfl, hF⟩ := hpo
        refine And.intro (fun c => absurd rfl c) (fun _ => ?_)
        refine Exists.intro _ (And.intro m_refuse (And.intro (And.intro (Nat.zero_le _) (Nat.zero_le _)) (fun q h' hpo => ?_)))
        obtain ⟨rfl, rfl⟩ := hpo
        refine And.intro ?_ ⟨trivial, Nat.le_refl _, Nat.le_refl _⟩
        exact x_PM_L hF
      · rw [if_neg hc] at hpo
        rw [if_neg hc]
        obtain ⟨F, rfl, rfl, hF⟩ := hpo
        have bb : d_back v p k m ≤ m - d_kept v m := Nat.min_le_left _ _
        refine And.intro (fun _ => ?_) (fun c => absurd c (x_nIm (by omega)))
        refine Exists.intro _ (And.intro m_gives (And.intro (And.intro (Nat.zero_le _) (Nat.zero_le _)) (fun q h' hpo => ?_)))
        obtain ⟨rfl, rfl⟩ := hpo
        refine And.intro ?_ ⟨trivial, Nat.le_refl _, Nat.le_refl _⟩
        exact x_PM_L hF
theorem m_burn {x y z : Int32} (hM : v_M (f 501) 0 v) (hB : v_B v) : x_Ct 263 (d + 4) [.ref 500, .int x, .int y, .int z] (f, g, x_HR r t, dm, n) (x_PM f g (x_HR r t) dm n (sp_burn v x y z)) := by
  have bK := v_B_K hB
  have bG := v_B_G hB
  have bP := v_B_P hB
  have o0 : v_ok v 0 0 0 := ⟨rfl, rfl⟩
  have h0 : f 501 0 = nI (v 0 0 0) := v_M_at hM o0
  have b0 : v 0 0 0 ≤ 4 := (hB.1 0 0 0 o0).2
  have o2 : v_ok v 2 0 0 := ⟨rfl, rfl⟩
  have h2 : f 501 2 = nI (v 2 0 0) := v_M_at hM o2
  have b2 : v 2 0 0 ≤ 5 := (hB.1 2 0 0 o2).2
  unfold sp_burn
  refine x_Ct_w (by decide) (Nat.le_of_ble_eq_true rfl) ok263 [] 8 ?_
  refine Exists.intro _ (And.intro (m_isSheet h0 (by omega) h2 (by omega)) (And.intro (And.intro (Nat.zero_le _) (Nat.zero_le _)) (fun q h' hpo => ?_)))
  obtain ⟨rfl, rfl⟩ := hpo
  cases hb : (x_ixb x (v 2 0 0) && x_ixb y (v 0 0 0)) with
  | false =>
    refine And.intro (fun _ => ?_) (fun c => absurd rfl c)
    refine Exists.intro _ (And.intro m_refuse (And.intro (And.intro (Nat.zero_le _) (Nat.zero_le _)) (fun q h' hpo => ?_)))
    obtain ⟨rfl, rfl⟩ := hpo
    refine And.intro ?_ ⟨trivial, Nat.le_refl _, Nat.le_refl _⟩
    exact x_PM_0 hM
  | true =>
    refine And.intro (fun c => absurd c (by decide)) (fun _ => ?_)
    refine Exists.intro _ (And.intro m_isMany (And.intro (And.intro (Nat.zero_le _) (Nat.zero_le _)) (fun q h' hpo => ?_)))
    obtain ⟨rfl, rfl⟩ := hpo
    cases hz : x_wi z 1 999 with
    | false =>
      refine And.intro (fun c => absurd rfl c) (fun _ => ?_)
      refine Exists.intro _ (And.intro m_refuse (And.intro (And.intro (Nat.zero_le _) (Nat.zero_le _)) (fun q h' hpo => ?_)))
      obtain ⟨rfl, rfl⟩ := hpo
      refine And.intro ?_ ⟨trivial, Nat.le_refl _, Nat.le_refl _⟩
      exact x_PM_0 hM
    | true =>
      refine And.intro (fun _ => ?_) (fun c => absurd c (by decide))
      rw [Bool.and_eq_true] at hb
      obtain ⟨p, hp, rfl⟩ := x_ixb_t hb.1 (by omega)
      obtain ⟨k, hk, rfl⟩ := x_ixb_t hb.2 (by omega)
      obtain ⟨m, hm1, hm, rfl⟩ := x_wi_t (lo := 1) (hi := 999) hz (by decide) (by decide)
      rw [x_c, x_c, x_c, nI_clamp (by omega), nI_clamp (by omega), nI_clamp (by omega)]
      have o13 : v_ok v 13 p k := show p < v 2 0 0 ∧ k < v 0 0 0 from ⟨by omega, by omega⟩
      have h13 : f 501 (27 + 14 * p + k) = nI (v 13 p k) := v_M_at hM o13
      have b13 : v 13 p k ≤ 9999 := (hB.1 13 p k o13).2
      have o9 : v_ok v 9 k 0 := show k < v 0 0 0 ∧ 0 = 0 from ⟨by omega, rfl⟩
      have h9 : f 501 (12 + k) = nI (v 9 k 0) := v_M_at hM o9
      have b9 : v 9 k 0 ≤ 500 := (hB.1 9 k 0 o9).2
      have l9 : 1 ≤ v 9 k 0 := (hB.1 9 k 0 o9).1
      have h17 : f 501 10 = nI (min 999999999 (v 17 0 0)) := hM.2.2
      have bm : m * v 9 k 0 ≤ 999 * 500 := Nat.mul_le_mul hm b9
      unfold s_burn
      refine Exists.intro _ (And.intro m_wholeAt (And.intro (And.intro (Nat.zero_le _) (Nat.zero_le _)) (fun q h' hpo => ?_)))
      obtain ⟨rfl, rfl⟩ := hpo
      refine And.intro (x_ix_nI (by omega) (by omega)) ?_
      rw [nI_clamp (by omega)]
      refine And.intro (fun c => ?_) (fun c => ?_)
      · have c : nI m ≤ f 501 (27 + 14 * p + k) := c
        rw [h13, nI_leI (by omega) (by omega)] at c
        rw [if_neg (by omega)]
        refine Exists.intro _ (And.intro m_wholeAt (And.intro (And.intro (Nat.zero_le _) (Nat.zero_le _)) (fun q h' hpo => ?_)))
        obtain ⟨rfl, rfl⟩ := hpo
        refine And.intro (x_ix_nI (by omega) (by omega)) ?_
        rw [nI_clamp (by omega)]
        refine And.intro (x_ix_nI (by omega) (by omega)) ?_
        rw [nI_clamp (by omega)]
        refine Exists.intro _ (And.intro (m_worthV (w := v 9 k 0) (by omega) ((x_up_j (by omega)).trans h9)) (And.intro (And.intro (Nat.zero_le _) (Nat.zero_le _)) (fun q h' hpo => ?_)))
        obtain ⟨rfl, rfl⟩ := hpo
        refine Exists.intro _ (And.intro (m_addsTo (W := 10) (A := v 17 0 0) (m := m * v 9 k 0) (Or.inr rfl) ((x_up_j (by omega)).trans h17) (pk_mul m (v 9 k 0)) (by omega)) (And.intro (And.intro (Nat.zero_le _) (Nat.zero_le _)) (fun q h' hpo => ?_)))
        obtain ⟨rfl, rfl⟩ := hpo
        refine Exists.intro _ (And.intro m_wholeAt (And.intro (And.intro (Nat.zero_le _) (Nat.zero_le _)) (fun q h' hpo => ?_)))
        obtain ⟨rfl, rfl⟩ := hpo
        refine And.intro (x_ix_nI (by omega) (by omega)) ?_
        rw [nI_clamp (by omega)]
        refine Exists.intro _ (And.intro m_gives (And.intro (And.intro (Nat.zero_le _) (Nat.zero_le _)) (fun q h' hpo => ?_)))
        obtain ⟨rfl, rfl⟩ := hpo
        refine And.intro ?_ ⟨trivial, Nat.le_refl _, Nat.le_refl _⟩
        have e := x_ML_17 (x_ML_set (x_ML_0 hM) bK bG bP o13 (x := v 13 p k - m) (by decide)) bK bG bP (v 17 0 0 + m * v 9 k 0)
        rw [← pk_sub (a := v 13 p k) (by omega), ← h13] at e
        have e1 : x_up (x_up f 501 (27 + 14 * p + k) (f 501 (27 + 14 * p + k) - nI m)) 501 10 (nI (min 999999999 (v 17 0 0 + m * v 9 k 0))) 501 (27 + 14 * p + k) = nI (v 13 p k - m) := by rw [x_up_j (by omega), x_up_s, h13, pk_sub (by omega)]
        show x_PM f g (x_HR r t) dm n (.int (nI (v 13 p k - m)), 0, d_burn v p k m) (some (.int (x_up (x_up f 501 (27 + 14 * p + k) (f 501 (27 + 14 * p + k) - nI m)) 501 10 (nI (min 999999999 (v 17 0 0 + m * v 9 k 0))) 501 (27 + 14 * p + k)))) _
        rw [e1]
        exact x_PM_L e
      · have c : ¬ nI m ≤ f 501 (27 + 14 * p + k) := c
        rw [h13, nI_leI (by omega) (by omega)] at c
        rw [if_pos (by omega)]
        refine Exists.intro _ (And.intro m_refuse (And.intro (And.intro (Nat.zero_le _) (Nat.zero_le _)) (fun q h' hpo => ?_)))
        obtain ⟨rfl, rfl⟩ := hpo
        refine And.intro ?_ ⟨trivial, Nat.le_refl _, Nat.le_refl _⟩
        exact x_PM_0 hM
theorem m_cross {x y z : Int32} (hM : v_M (f 501) 0 v) (hB : v_B v) : x_Ct 264 (d + 4) [.ref 500, .int x, .int y, .int z] (f, g, x_HR r t, dm, n) (x_PM f g (x_HR r t) dm n (sp_cross v x y z)) := by
  have bK := v_B_K hB
  have bG := v_B_G hB
  have bP := v_B_P hB
  have o0 : v_ok v 0 0 0 := ⟨rfl, rfl⟩
  have h0 : f 501 0 = nI (v 0 0 0) := v_M_at hM o0
  have b0 : v 0 0 0 ≤ 4 := (hB.1 0 0 0 o0).2
  have o2 : v_ok v 2 0 0 := ⟨rfl, rfl⟩
  have h2 : f 501 2 = nI (v 2 0 0) := v_M_at hM o2
  have b2 : v 2 0 0 ≤ 5 := (hB.1 2 0 0 o2).2
  unfold sp_cross
  refine x_Ct_w (by decide) (Nat.le_of_ble_eq_true rfl) ok264 [] 8 ?_
  refine Exists.intro _ (And.intro (m_isSheet h0 (by omega) h2 (by omega)) (And.intro (And.intro (Nat.zero_le _) (Nat.zero_le _)) (fun q h' hpo => ?_)))
  obtain ⟨rfl, rfl⟩ := hpo
  cases hb : (x_ixb x (v 2 0 0) && x_ixb y (v 0 0 0)) with
  | false =>
    refine And.intro (fun _ => ?_) (fun c => absurd rfl c)
    refine Exists.intro _ (And.intro m_refuse (And.intro (And.intro (Nat.zero_le _) (Nat.zero_le _)) (fun q h' hpo => ?_)))
    obtain ⟨rfl, rfl⟩ := hpo
    refine And.intro ?_ ⟨trivial, Nat.le_refl _, Nat.le_refl _⟩
    exact x_PM_0 hM
  | true =>
    refine And.intro (fun c => absurd c (by decide)) (fun _ => ?_)
    refine Exists.intro _ (And.intro m_isMany (And.intro (And.intro (Nat.zero_le _) (Nat.zero_le _)) (fun q h' hpo => ?_)))
    obtain ⟨rfl, rfl⟩ := hpo
    cases hz : x_wi z 1 999 with
    | false =>
      refine And.intro (fun c => absurd rfl c) (fun _ => ?_)
      refine Exists.intro _ (And.intro m_refuse (And.intro (And.intro (Nat.zero_le _) (Nat.zero_le _)) (fun q h' hpo => ?_)))
      obtain ⟨rfl, rfl⟩ := hpo
      refine And.intro ?_ ⟨trivial, Nat.le_refl _, Nat.le_refl _⟩
      exact x_PM_0 hM
    | true =>
      refine And.intro (fun _ => ?_) (fun c => absurd c (by decide))
      rw [Bool.and_eq_true] at hb
      obtain ⟨p, hp, rfl⟩ := x_ixb_t hb.1 (by omega)
      obtain ⟨k, hk, rfl⟩ := x_ixb_t hb.2 (by omega)
      obtain ⟨m, hm1, hm, rfl⟩ := x_wi_t (lo := 1) (hi := 999) hz (by decide) (by decide)
      rw [x_c, x_c, x_c, nI_clamp (by omega), nI_clamp (by omega), nI_clamp (by omega)]
      have o13 : v_ok v 13 p k := show p < v 2 0 0 ∧ k < v 0 0 0 from ⟨by omega, by omega⟩
      have h13 : f 501 (27 + 14 * p + k) = nI (v 13 p k) := v_M_at hM o13
      have b13 : v 13 p k ≤ 9999 := (hB.1 13 p k o13).2
      have o9 : v_ok v 9 k 0 := show k < v 0 0 0 ∧ 0 = 0 from ⟨by omega, rfl⟩
      have h9 : f 501 (12 + k) = nI (v 9 k 0) := v_M_at hM o9
      have b9 : v 9 k 0 ≤ 500 := (hB.1 9 k 0 o9).2
      have l9 : 1 ≤ v 9 k 0 := (hB.1 9 k 0 o9).1
      have o7 : v_ok v 7 0 0 := ⟨rfl, rfl⟩
      have h7 : f 501 7 = nI (v 7 0 0) := v_M_at hM o7
      have b7 : v 7 0 0 ≤ 21000000 := (hB.1 7 0 0 o7).2
      have l7 : 1 ≤ v 7 0 0 := (hB.1 7 0 0 o7).1
      have o12 : v_ok v 12 p 0 := show p < v 2 0 0 ∧ 0 = 0 from ⟨by omega, rfl⟩
      have h12 : f 501 (26 + 14 * p) = nI (v 12 p 0) := v_M_at hM o12
      have b12 : v 12 p 0 ≤ 99999 := (hB.1 12 p 0 o12).2
      have bm : m * v 9 k 0 ≤ 999 * 500 := Nat.mul_le_mul hm b9
      have bg : d_got v k m ≤ m * v 9 k 0 := Nat.div_le_self _ _
      have eg : nI m * nI (v 9 k 0) / f 501 7 = nI (d_got v k m) := by
        rw [h7, pk_mul, pk_div (by omega) (by omega) (by omega)]
        rfl
      unfold s_cross
      refine Exists.intro _ (And.intro (m_worthV (w := v 9 k 0) (by omega) h9) (And.intro (And.intro (Nat.zero_le _) (Nat.zero_le _)) (fun q h' hpo => ?_)))
      obtain ⟨rfl, rfl⟩ := hpo
      refine And.intro (x_ix_nI (j := 7) (by decide) (by decide)) ?_
      refine And.intro (by show ¬ f 501 7 = 0; rw [h7]; exact x_ne0 (by omega) (by omega)) ?_
      refine Exists.intro _ (And.intro m_wholeAt (And.intro (And.intro (Nat.zero_le _) (Nat.zero_le _)) (fun q h' hpo => ?_)))
      obtain ⟨rfl, rfl⟩ := hpo
      refine And.intro (x_ix_nI (by omega) (by omega)) ?_
      rw [nI_clamp (by omega)]
      refine And.intro (fun c => ?_) (fun c => ?_)
      · have c : f 501 (27 + 14 * p + k) < nI m := c
        rw [h13, nI_ltI (by omega) (by omega)] at c
        rw [if_pos (by omega)]
        refine Exists.intro _ (And.intro m_refuse (And.intro (And.intro (Nat.zero_le _) (Nat.zero_le _)) (fun q h' hpo => ?_)))
        obtain ⟨rfl, rfl⟩ := hpo
        refine And.intro ?_ ⟨trivial, Nat.le_refl _, Nat.le_refl _⟩
        exact x_PM_0 hM
      · have c : ¬ f 501 (27 + 14 * p + k) < nI m := c
        rw [h13, nI_ltI (by omega) (by omega)] at c
        refine Exists.intro _ (And.intro m_personRow (And.intro (And.intro (Nat.zero_le _) (Nat.zero_le _)) (fun q h' hpo => ?_)))
        obtain ⟨rfl, rfl⟩ := hpo
        refine And.intro (x_ix_nI (by omega) (by omega)) ?_
        rw [nI_clamp (by omega)]
        refine And.intro (fun c2 => ?_) (fun c2 => ?_)
        · have c2 : f 501 (26 + 14 * p) + nI m * nI (v 9 k 0) / f 501 7 ≤ nI 99999 := c2
          rw [h12, eg, nI_add, nI_leI (by omega) (by omega)] at c2
          rw [if_neg (by omega)]
          refine Exists.intro _ (And.intro m_wholeAt (And.intro (And.intro (Nat.zero_le _) (Nat.zero_le _)) (fun q h' hpo => ?_)))
          obtain ⟨rfl, rfl⟩ := hpo
          refine And.intro (x_ix_nI (by omega) (by omega)) ?_
          rw [nI_clamp (by omega)]
          refine And.intro (x_ix_nI (by omega) (by omega)) ?_
          rw [nI_clamp (by omega)]
          refine Exists.intro _ (And.intro m_personRow (And.intro (And.intro (Nat.zero_le _) (Nat.zero_le _)) (fun q h' hpo => ?_)))
          obtain ⟨rfl, rfl⟩ := hpo
          refine And.intro (x_ix_nI (by omega) (by omega)) ?_
          rw [nI_clamp (by omega)]
          refine And.intro (x_ix_nI (by omega) (by omega)) ?_
          rw [nI_clamp (by omega)]
          refine Exists.intro _ (And.intro m_gives (And.intro (And.intro (Nat.zero_le _) (Nat.zero_le _)) (fun q h' hpo => ?_)))
          obtain ⟨rfl, rfl⟩ := hpo
          refine And.intro ?_ ⟨trivial, Nat.le_refl _, Nat.le_refl _⟩
          have e := x_ML_set (x_ML_set (x_ML_0 hM) bK bG bP o13 (x := v 13 p k - m) (by decide)) bK bG bP (c := 12) (i := p) (j := 0) (x := v 12 p 0 + d_got v k m) ((v_ok_set (by decide)).mpr o12) (by decide)
          have e12 : x_up f 501 (27 + 14 * p + k) (f 501 (27 + 14 * p + k) - nI m) 501 (26 + 14 * p) = nI (v 12 p 0) := (x_up_j (by omega)).trans h12
          rw [← pk_sub (by omega), ← h13, ← nI_add (v 12 p 0), ← e12, ← eg] at e
          show x_PM f g (x_HR r t) dm n (.int (nI (d_got v k m)), 0, d_cross v p k m) (some (.int (nI m * nI (v 9 k 0) / f 501 7))) _
          rw [← eg]
          exact x_PM_L e
        · have c2 : ¬ f 501 (26 + 14 * p) + nI m * nI (v 9 k 0) / f 501 7 ≤ nI 99999 := c2
          rw [h12, eg, nI_add, nI_leI (by omega) (by omega)] at c2
          rw [if_pos (by omega)]
          refine Exists.intro _ (And.intro m_refuse (And.intro (And.intro (Nat.zero_le _) (Nat.zero_le _)) (fun q h' hpo => ?_)))
          obtain ⟨rfl, rfl⟩ := hpo
          refine And.intro ?_ ⟨trivial, Nat.le_refl _, Nat.le_refl _⟩
          exact x_PM_0 hM
end C24
