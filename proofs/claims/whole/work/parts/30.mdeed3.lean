theorem d_mon1_1 (v : xV) (j : Nat) : d_mon1 (d_mon1 v j) 1 = d_mon1 v (j + 1) := by
  have e6 : d_mon1 v j 6 0 0 = v 6 0 0 + j := by unfold d_mon1; rw [v_set_c (by decide), v_set_c (by decide), v_set_s]
  have e8 : d_mon1 v j 8 0 0 = v 8 0 0 + j * v 5 0 0 := by unfold d_mon1; rw [v_set_c (by decide), v_set_s]
  have e16 : d_mon1 v j 16 0 0 = v 16 0 0 + j * v 5 0 0 := by unfold d_mon1; rw [v_set_s]
  have e5 : d_mon1 v j 5 0 0 = v 5 0 0 := by unfold d_mon1; rw [v_set_c (by decide), v_set_c (by decide), v_set_c (by decide)]
  rw [show d_mon1 (d_mon1 v j) 1 = v_set (v_set (v_set (d_mon1 v j) 6 0 0 (d_mon1 v j 6 0 0 + 1)) 8 0 0 (d_mon1 v j 8 0 0 + 1 * d_mon1 v j 5 0 0)) 16 0 0 (d_mon1 v j 16 0 0 + 1 * d_mon1 v j 5 0 0) from rfl, e6, e8, e16, e5, show v 6 0 0 + j + 1 = v 6 0 0 + (j + 1) by omega, show v 8 0 0 + j * v 5 0 0 + 1 * v 5 0 0 = v 8 0 0 + (j + 1) * v 5 0 0 by rw [Nat.add_mul]; omega, show v 16 0 0 + j * v 5 0 0 + 1 * v 5 0 0 = v 16 0 0 + (j + 1) * v 5 0 0 by rw [Nat.add_mul]; omega]
  unfold d_mon1
  rw [v_set_comm (v_set (v_set v 6 0 0 _) 8 0 0 _) (c := 16) (c' := 6) (by decide), v_set_comm (v_set v 6 0 0 _) (c := 8) (c' := 6) (by decide), v_set_set v (c := 6), v_set_comm (v_set (v_set v 6 0 0 _) 8 0 0 _) (c := 16) (c' := 8) (by decide), v_set_set (v_set v 6 0 0 _) (c := 8), v_set_set (v_set (v_set v 6 0 0 _) 8 0 0 _) (c := 16)]
theorem d_mon_1 (v : xV) (j : Nat) : d_mon (d_mon v j) 1 = d_mon v (j + 1) := by
  have h3 : d_mon v j 3 0 0 = v 3 0 0 := by unfold d_mon d_mon1; rw [v_set_c (by decide), v_set_c (by decide), v_set_c (by decide), v_set_c (by decide)]
  have e : d_mon1 (d_mon v j) 1 = v_set (d_mon1 v (j + 1)) 7 0 0 (1 + v_out (d_mon1 v j) / v 3 0 0) := by
    rw [← d_mon1_1 v j]
    have e1 : ∀ (w : xV) (x : Nat), d_mon1 (v_set w 7 0 0 x) 1 = v_set (d_mon1 w 1) 7 0 0 x := by
      intro w x
      unfold d_mon1
      rw [v_set_c (by decide), v_set_c (by decide), v_set_c (by decide), v_set_c (by decide), v_set_comm w (c := 7) (c' := 6) (by decide), v_set_comm (v_set w 6 0 0 _) (c := 7) (c' := 8) (by decide), v_set_comm (v_set (v_set w 6 0 0 _) 8 0 0 _) (c := 7) (c' := 16) (by decide)]
    exact e1 _ _
  rw [show d_mon (d_mon v j) 1 = v_set (d_mon1 (d_mon v j) 1) 7 0 0 (1 + v_out (d_mon1 (d_mon v j) 1) / d_mon v j 3 0 0) from rfl, h3, e, v_out_set (by decide) (by decide) (by decide) (by decide) (by decide) (by decide), v_set_set]
  rfl
def d_mons (v : xV) (j : Nat) : xV := if j = 0 then v else d_mon v j
theorem d_mons_1 (v : xV) (j : Nat) : d_mon (d_mons v j) 1 = d_mons v (j + 1) := by
  unfold d_mons
  rw [if_neg (Nat.succ_ne_zero j)]
  by_cases h : j = 0
  · subst h
    rw [if_pos rfl]
  · rw [if_neg h, d_mon_1]
section C30
variable {f : Nat → Nat → Int32} {g : Nat → Nat → Int64} {r t : Nat} {ρ : Nat → Nat → Option Nat} {dm : List Nat} {n d N : Nat} {v : xV} {h : xH}
theorem m_monthGoes (hM : v_M (f 501) 0 v) (hB : v_Bn N v) (hN : N + 998001 < 2 ^ 60) (h6m : v 6 0 0 + 1 ≤ 9999) : x_Ct 269 (d + 3) [.ref 500] (f, g, x_HR r t, dm, n) (fun q h' => ∃ F, h' = (F, g, x_HR r t, dm, n) ∧ q = none ∧ x_ML f F (d_mon v 1)) := by
  have hBn := hB
  have hB := v_Bn_B hBn (by omega)
  have hB1 := v_Bn_B (v_Bn_mon1 hBn (m := 1) (by decide) h6m) hN
  have bo := v_out_le hB1
  have bK := v_B_K hB
  have bG := v_B_G hB
  have bP := v_B_P hB
  have o8 : v_ok v 8 0 0 := ⟨rfl, rfl⟩
  have h8 : f 501 8 = nI (v 8 0 0) := v_M_at hM o8
  have b8 : v 8 0 0 ≤ 9989001 := (hB.1 8 0 0 o8).2
  have o5 : v_ok v 5 0 0 := ⟨rfl, rfl⟩
  have h5 : f 501 5 = nI (v 5 0 0) := v_M_at hM o5
  have b5 : v 5 0 0 ≤ 999 := (hB.1 5 0 0 o5).2
  have o6 : v_ok v 6 0 0 := ⟨rfl, rfl⟩
  have h6 : f 501 6 = nI (v 6 0 0) := v_M_at hM o6
  have b6 : v 6 0 0 ≤ 9999 := (hB.1 6 0 0 o6).2
  have o3 : v_ok v 3 0 0 := ⟨rfl, rfl⟩
  have h3 : f 501 3 = nI (v 3 0 0) := v_M_at hM o3
  have b3 : v 3 0 0 ≤ 9999 := (hB.1 3 0 0 o3).2
  have l3 : 10 ≤ v 3 0 0 := (hB.1 3 0 0 o3).1
  have h16 : f 501 9 = nI (min 999999999 (v 16 0 0)) := hM.2.1
  refine x_Ct_w (by decide) (Nat.le_of_ble_eq_true rfl) ok269 [] 2 ?_
  refine And.intro (x_ix_nI (j := 8) (by decide) (by decide)) ?_
  refine And.intro (x_ix_nI (j := 5) (by decide) (by decide)) ?_
  refine Exists.intro _ (And.intro (m_addsTo (W := 9) (A := v 16 0 0) (m := v 5 0 0) (Or.inl rfl) h16 h5 (by omega)) (And.intro (And.intro (Nat.zero_le _) (Nat.zero_le _)) (fun q h' hpo => ?_)))
  obtain ⟨rfl, rfl⟩ := hpo
  refine And.intro (x_ix_nI (j := 8) (by decide) (by decide)) ?_
  have e1 := x_ML_set (x_ML_16 (x_ML_0 hM) bK bG bP (v 16 0 0 + v 5 0 0)) bK bG bP (c := 8) (i := 0) (j := 0) (x := v 8 0 0 + v 5 0 0) ⟨rfl, rfl⟩ (by decide)
  have eo : v_out (v_set (v_set v 16 0 0 (v 16 0 0 + v 5 0 0)) 8 0 0 (v 8 0 0 + v 5 0 0)) = v_out (d_mon1 v 1) := by
    refine v_out_cg (fun c i j hc => ?_)
    unfold d_mon1
    rw [Nat.one_mul]
    by_cases h8 : c = 8
    · subst h8
      rw [v_set_c (c' := 8) (c := 16) (by decide)]
      by_cases hij : i = 0 ∧ j = 0
      · obtain ⟨rfl, rfl⟩ := hij
        rw [v_set_s, v_set_s]
      · rw [v_set_n (c := 8) (by omega), v_set_n (c := 8) (by omega), v_set_c (by decide), v_set_c (by decide)]
    · rw [v_set_c h8, v_set_c (by omega), v_set_c (by omega), v_set_c h8, v_set_c (by omega)]
  have e2 := m_outK (r := r) (t := t) (dm := dm) (n := n) (d := d) (g := g) e1.1 bK bP
  rw [eo] at e2
  have h3b := v_M_at e1.1 (c := 3) (i := 0) (j := 0) ⟨rfl, rfl⟩
  have e3 : x_V 238 (d + 2) [.ref 500, .int (nI (v_out (d_mon1 v 1)))] (x_up (x_up f 501 9 (nI (min 999999999 (v 16 0 0 + v 5 0 0)))) 501 (v_pm 8 0 0) (nI (v 8 0 0 + v 5 0 0)), g, x_HR r t, dm, n) (.int (nI (1 + v_out (d_mon1 v 1) / v 3 0 0))) (x_up (x_up f 501 9 (nI (min 999999999 (v 16 0 0 + v 5 0 0)))) 501 (v_pm 8 0 0) (nI (v 8 0 0 + v 5 0 0)), g, x_HR r t, dm, n) := by
    refine x_Ct_w (by decide) (Nat.le_of_ble_eq_true rfl) ok238 [] 2 ?_
    refine And.intro (x_ix_nI (j := 3) (by decide) (by decide)) ?_
    refine And.intro (by show ¬ f 501 3 = 0; rw [h3]; exact x_ne0 (by omega) (by omega)) ?_
    exact And.intro ⟨(by show some (Value.int (nI 1 + nI (v_out (d_mon1 v 1)) / f 501 3)) = _; rw [h3, pk_div (by omega) (by omega) (by omega), nI_add]), rfl⟩ ⟨trivial, Nat.le_refl _, Nat.le_refl _⟩
  have e4 := x_ML_set (x_ML_set e1 bK bG bP (c := 7) (i := 0) (j := 0) (x := 1 + v_out (d_mon1 v 1) / v 3 0 0) ⟨rfl, rfl⟩ (by decide)) bK bG bP (c := 6) (i := 0) (j := 0) (x := v 6 0 0 + 1) ⟨rfl, rfl⟩ (by decide)
  have ev : v_set (v_set (v_set (v_set v 16 0 0 (v 16 0 0 + v 5 0 0)) 8 0 0 (v 8 0 0 + v 5 0 0)) 7 0 0 (1 + v_out (d_mon1 v 1) / v 3 0 0)) 6 0 0 (v 6 0 0 + 1) = d_mon v 1 := by
    rw [v_set_comm _ (c := 7) (c' := 6) (by decide), v_set_comm _ (c := 8) (c' := 6) (by decide), v_set_comm _ (c := 16) (c' := 6) (by decide), v_set_comm _ (c := 16) (c' := 8) (by decide)]
    unfold d_mon d_mon1
    rw [Nat.one_mul]
  rw [ev] at e4
  have h8' : nI (v 8 0 0 + v 5 0 0) = f 501 8 + f 501 5 := by rw [h8, h5, nI_add]
  have h6' : nI (v 6 0 0 + 1) = f 501 6 + 1 := by rw [h6, nI_1]
  rw [h8'] at e2 e3 e4
  rw [h6'] at e4
  refine Exists.intro _ (And.intro e2 (And.intro (And.intro (Nat.zero_le _) (Nat.zero_le _)) (fun q h' hpo => ?_)))
  obtain ⟨rfl, rfl⟩ := hpo
  refine Exists.intro _ (And.intro e3 (And.intro (And.intro (Nat.zero_le _) (Nat.zero_le _)) (fun q h' hpo => ?_)))
  obtain ⟨rfl, rfl⟩ := hpo
  refine And.intro (x_ix_nI (j := 7) (by decide) (by decide)) ?_
  refine And.intro (x_ix_nI (j := 6) (by decide) (by decide)) ?_
  refine And.intro (x_ix_nI (j := 6) (by decide) (by decide)) ?_
  refine And.intro ?_ ⟨trivial, Nat.le_refl _, Nat.le_refl _⟩
  exact ⟨_, rfl, rfl, e4⟩
theorem v_Bn_mons {v : xV} (hB : v_Bn N v) (hN : N + 998001 < 2 ^ 60) {j : Nat} (hj : j ≤ 99) (h6 : v 6 0 0 + j ≤ 9999) : v_Bn (N + 998001) (d_mons v j) := by
  unfold d_mons
  by_cases h0 : j = 0
  · rw [if_pos h0]
    exact v_Bn_mono hB (by omega)
  · rw [if_neg h0]
    exact v_Bn_mon hB hN (by omega) h6
theorem d_mons_6 (v : xV) (j : Nat) : d_mons v j 6 0 0 = v 6 0 0 + j := by
  unfold d_mons
  by_cases h0 : j = 0
  · rw [if_pos h0, h0, Nat.add_zero]
  · rw [if_neg h0]
    unfold d_mon d_mon1
    rw [v_set_c (by decide), v_set_c (by decide), v_set_c (by decide), v_set_s]
theorem m_month {x : Int32} (hM : v_M (f 501) 0 v) (hB : v_Bn N v) (hN : N + 2 ^ 33 < 2 ^ 60) : x_Ct 270 (d + 4) [.ref 500, .int x] (f, g, x_HR r t, dm, n) (x_PM f g (x_HR r t) dm n (sp_month v x)) := by
  have hBn := hB
  have hB := v_Bn_B hBn (by omega)
  have o6 : v_ok v 6 0 0 := ⟨rfl, rfl⟩
  have h6 : f 501 6 = nI (v 6 0 0) := v_M_at hM o6
  have b6 : v 6 0 0 ≤ 9999 := (hB.1 6 0 0 o6).2
  have loop : ∀ q j F, 1 ≤ j + q → j + q ≤ 99 → v 6 0 0 + (j + q) ≤ 9999 → x_ML f F (d_mons v j) → x_J 270 (d + 4) (x_PM f g (x_HR r t) dm n (.int (nI (1 + v_out (d_mon1 v (j + q)) / v 3 0 0)), 0, d_mon v (j + q))) 41 [some (.ref 500), some (.int (nI (j + q))), some (.int (nI j))] [] (F, g, x_HR r t, dm, n) 0 0 := by
    intro q
    induction q with
    | zero =>
      intro j F h1 h2 h3 hF
      rw [Nat.add_zero] at h1 h2 h3 ⊢
      refine x_wp_ok ok270 [41] 4 ?_
      refine And.intro (fun c => ?_) (fun c => ?_)
      · refine And.intro (x_ix_nI (j := 7) (by decide) (by decide)) ?_
        refine Exists.intro _ (And.intro m_gives (And.intro (And.intro (Nat.zero_le _) (Nat.zero_le _)) (fun q h' hpo => ?_)))
        obtain ⟨rfl, rfl⟩ := hpo
        refine And.intro ?_ ⟨trivial, Nat.le_refl _, Nat.le_refl _⟩
        unfold d_mons at hF
        rw [if_neg (by omega)] at hF
        rw [show j + 0 = j from rfl, show (1 + v_out (d_mon1 v j) / v 3 0 0) = d_mon v j 7 0 0 from (v_set_s _ _ _ _ _).symm, ← v_M_at hF.1 (c := 7) (i := 0) (j := 0) ⟨rfl, rfl⟩]
        exact x_PM_L hF
      · exact absurd (nI_le (Nat.le_refl j) (by omega)) c
    | succ q ih =>
      intro j F h1 h2 h3 hF
      have e := fun F' hF' => ih (j + 1) F' (by omega) (by omega) (by omega) hF'
      rw [show j + 1 + q = j + (q + 1) by omega] at e
      rw [nI_succ j] at e
      refine x_wp_ok ok270 [41] 4 ?_
      refine And.intro (fun c => ?_) (fun c => ?_)
      · have c : nI (j + (q + 1)) ≤ nI j := c
        exact absurd c (nI_ge (by omega) (by omega))
      · have hd6 := d_mons_6 v j
        refine Exists.intro _ (And.intro (m_monthGoes hF.1 (v_Bn_mons hBn (by omega) (by omega) (by omega)) (by omega) (by omega)) (And.intro (And.intro (Nat.zero_le _) (Nat.zero_le _)) (fun q h' hpo => ?_)))
        obtain ⟨F', rfl, rfl, hF'⟩ := hpo
        rw [d_mons_1] at hF'
        exact e F' (x_ML_tr hF hF')
  unfold sp_month
  refine x_Ct_w (by decide) (Nat.le_of_ble_eq_true rfl) ok270 [41] 6 ?_
  refine Exists.intro _ (And.intro (m_isFrom (lo := 1) (hi := 99)) (And.intro (And.intro (Nat.zero_le _) (Nat.zero_le _)) (fun q h' hpo => ?_)))
  obtain ⟨rfl, rfl⟩ := hpo
  rw [x_wl_wi (lo' := 1) (hi' := 99) rfl rfl]
  cases hz : x_wi x 1 99 with
  | false =>
    refine And.intro (fun c => absurd rfl c) (fun _ => ?_)
    refine Exists.intro _ (And.intro m_refuse (And.intro (And.intro (Nat.zero_le _) (Nat.zero_le _)) (fun q h' hpo => ?_)))
    obtain ⟨rfl, rfl⟩ := hpo
    refine And.intro ?_ ⟨trivial, Nat.le_refl _, Nat.le_refl _⟩
    exact x_PM_0 hM
  | true =>
    refine And.intro (fun _ => ?_) (fun c => absurd c (by decide))
    obtain ⟨m, hm1, hm, rfl⟩ := x_wi_t (lo := 1) (hi := 99) hz (by decide) (by decide)
    rw [x_c, nI_clamp (by omega)]
    unfold s_mon
    refine And.intro (x_ix_nI (j := 6) (by decide) (by decide)) ?_
    refine And.intro (fun c => ?_) (fun c => ?_)
    · have c : f 501 6 + nI m ≤ nI 9999 := c
      rw [h6, nI_add, nI_leI (by omega) (by omega)] at c
      rw [if_neg (by omega)]
      have e := loop m 0 f (by omega) (by omega) (by omega) (x_ML_0 hM)
      rw [Nat.zero_add] at e
      exact e
    · have c : ¬ f 501 6 + nI m ≤ nI 9999 := c
      rw [h6, nI_add, nI_leI (by omega) (by omega)] at c
      rw [if_pos (by omega)]
      refine Exists.intro _ (And.intro m_refuse (And.intro (And.intro (Nat.zero_le _) (Nat.zero_le _)) (fun q h' hpo => ?_)))
      obtain ⟨rfl, rfl⟩ := hpo
      refine And.intro ?_ ⟨trivial, Nat.le_refl _, Nat.le_refl _⟩
      exact x_PM_0 hM
theorem m_renew {x : Int32} (hM : v_M (f 501) 0 v) (hB : v_Bn N v) (hN : N + 2 ^ 33 < 2 ^ 60) : x_Ct 268 (d + 5) [.ref 500, .int x] (f, g, x_HR r t, dm, n) (x_PM f g (x_HR r t) dm n (sp_renew v x)) := by
  have hB0 := v_Bn_B hB (by omega)
  have bP0 := v_B_P hB0
  have bK0 := v_B_K hB0
  have h00 : f 501 0 = nI (v 0 0 0) := v_M_at hM (c := 0) (i := 0) (j := 0) ⟨rfl, rfl⟩
  have loop : ∀ m p F l4 k, k + 1 < v 0 0 0 → p + m = v 2 0 0 → x_ML f F (d_renew v k p) → x_J 268 (d + 5) (x_PM f g (x_HR r t) dm n (.int (nI (v_out v) - nI (v_out (d_renew v k (v 2 0 0)))), 0, d_renew v k (v 2 0 0))) 36 [some (.ref 500), some (.int (nI k)), some (.int (nI (v_out v))), some (.int (nI p)), l4] [] (F, g, x_HR r t, dm, n) 0 0 := by
    intro m
    induction m with
    | zero =>
      intro p F l4 k hk hp hF
      have h2 : F 501 2 = nI (v 2 0 0) := (v_M_at hF.1 (c := 2) (i := 0) (j := 0) ⟨rfl, rfl⟩).trans (congrArg nI (d_renew_c (by decide) (by decide) (by decide) (by decide) p))
      refine x_wp_ok ok268 [36] 4 ?_
      refine And.intro (x_ix_nI (j := 2) (by decide) (by decide)) ?_
      refine And.intro (fun c => ?_) (fun c => ?_)
      · rw [Nat.add_zero] at hp
        subst hp
        refine Exists.intro _ (And.intro (m_out hF.1 (v_Bn_B (v_Bn_renew hB hk _ (Nat.le_refl _)) (by omega))) (And.intro (And.intro (Nat.zero_le _) (Nat.zero_le _)) (fun q h' hpo => ?_)))
        obtain ⟨rfl, rfl⟩ := hpo
        refine Exists.intro _ (And.intro m_gives (And.intro (And.intro (Nat.zero_le _) (Nat.zero_le _)) (fun q h' hpo => ?_)))
        obtain ⟨rfl, rfl⟩ := hpo
        refine And.intro ?_ ⟨trivial, Nat.le_refl _, Nat.le_refl _⟩
        exact x_PM_L hF
      · have c : ¬ F 501 2 ≤ nI p := c
        rw [h2] at c
        exact absurd (nI_le (by omega) (by omega)) c
    | succ m ih =>
      intro p F l4 k hk hp hF
      have hBn := v_Bn_renew hB hk p (by omega)
      have hB := v_Bn_B hBn (by omega)
      have ew : ∀ c i j, c ≠ 13 → c ≠ 14 → c ≠ 16 → c ≠ 17 → d_renew v k p c i j = v c i j := fun c i j a b e e2 => d_renew_c a b e e2 p
      have h2' := ew 2 0 0 (by decide) (by decide) (by decide) (by decide)
      have h0' := ew 0 0 0 (by decide) (by decide) (by decide) (by decide)
      have hv : d_renew v k (p + 1) = d_ren1 (d_renew v k p) p k := rfl
      generalize hw : d_renew v k p = w at *
      have bK := v_B_K hB
      have bG := v_B_G hB
      have bP := v_B_P hB
      have o13 : v_ok w 13 p k := show p < w 2 0 0 ∧ k < w 0 0 0 from ⟨by omega, by omega⟩
      have o14 : v_ok w 14 p k := show p < w 2 0 0 ∧ k < w 0 0 0 from ⟨by omega, by omega⟩
      have o13' : v_ok w 13 p (k + 1) := show p < w 2 0 0 ∧ k + 1 < w 0 0 0 from ⟨by omega, by omega⟩
      have o9 : v_ok w 9 k 0 := show k < w 0 0 0 ∧ 0 = 0 from ⟨by omega, rfl⟩
      have o9' : v_ok w 9 (k + 1) 0 := show k + 1 < w 0 0 0 ∧ 0 = 0 from ⟨by omega, rfl⟩
      have h2 : F 501 2 = nI (w 2 0 0) := v_M_at hF.1 (c := 2) (i := 0) (j := 0) ⟨rfl, rfl⟩
      have h13' : F 501 (27 + 14 * p + (k + 1)) = nI (w 13 p (k + 1)) := v_M_at hF.1 o13'
      have h9 : F 501 (12 + k) = nI (w 9 k 0) := v_M_at hF.1 o9
      have h9' : F 501 (12 + (k + 1)) = nI (w 9 (k + 1) 0) := v_M_at hF.1 o9'
      have b13 : w 13 p k ≤ 9999 := (hB.1 13 p k o13).2
      have b14 : w 14 p k ≤ 9999 := (hB.1 14 p k o14).2
      have b9 : w 9 k 0 ≤ 500 := (hB.1 9 k 0 o9).2
      have b9' : w 9 (k + 1) 0 ≤ 500 := (hB.1 9 (k + 1) 0 o9').2
      have br : d_ren w p k ≤ 9999 - w 13 p (k + 1) := Nat.min_le_right _ _
      have m1 : (w 13 p k + w 14 p k) * w 9 k 0 ≤ 19998 * 500 := Nat.mul_le_mul (by omega) b9
      have m2 : d_ren w p k * w 9 (k + 1) 0 ≤ 9999 * 500 := Nat.mul_le_mul (by omega) b9'
      have eM := x_ML_set (x_ML_set (x_ML_set (x_ML_16 (x_ML_17 hF bK bG bP (w 17 0 0 + (w 13 p k + w 14 p k) * w 9 k 0)) bK bG bP (w 16 0 0 + d_ren w p k * w 9 (k + 1) 0)) bK bG bP (c := 13) (i := p) (j := k) (x := 0) o13 (by decide)) bK bG bP (c := 14) (i := p) (j := k) (x := 0) o14 (by decide)) bK bG bP (c := 13) (i := p) (j := k + 1) (x := w 13 p (k + 1) + d_ren w p k) o13' (by decide)
      have e5 := ih (p + 1) _ (some (.int (nI (d_ren w p k)))) k hk (by omega) (by rw [hv]; exact eM)
      refine x_wp_ok ok268 [36] 4 ?_
      refine And.intro (x_ix_nI (j := 2) (by decide) (by decide)) ?_
      refine And.intro (fun c => ?_) (fun c => ?_)
      · have c : F 501 2 ≤ nI p := c
        rw [h2] at c
        exact absurd c (nI_ge (by omega) (by omega))
      · refine Exists.intro _ (And.intro (m_renewedBy hF.1 hB (by omega) (by omega)) (And.intro (And.intro (Nat.zero_le _) (Nat.zero_le _)) (fun q h' hpo => ?_)))
        obtain ⟨rfl, rfl⟩ := hpo
        refine Exists.intro _ (And.intro (m_allOf hF.1 hB (by omega) (by omega)) (And.intro (And.intro (Nat.zero_le _) (Nat.zero_le _)) (fun q h' hpo => ?_)))
        obtain ⟨rfl, rfl⟩ := hpo
        refine Exists.intro _ (And.intro (m_worthV (w := w 9 k 0) (by omega) h9) (And.intro (And.intro (Nat.zero_le _) (Nat.zero_le _)) (fun q h' hpo => ?_)))
        obtain ⟨rfl, rfl⟩ := hpo
        refine Exists.intro _ (And.intro (m_addsTo (W := 10) (A := w 17 0 0) (m := (w 13 p k + w 14 p k) * w 9 k 0) (Or.inr rfl) hF.1.2.2 (pk_mul _ _) (by omega)) (And.intro (And.intro (Nat.zero_le _) (Nat.zero_le _)) (fun q h' hpo => ?_)))
        obtain ⟨rfl, rfl⟩ := hpo
        have ew2 := m_worthV (f := x_up F 501 10 (nI (min 999999999 (w 17 0 0 + (w 13 p k + w 14 p k) * w 9 k 0)))) (r := r) (t := t) (dm := dm) (n := n) (d := d + 4) (g := g) (k := k + 1) (w := w 9 (k + 1) 0) (by omega) ((x_up_j (by omega)).trans h9')
        rw [nI_succ] at ew2
        refine Exists.intro _ (And.intro ew2 (And.intro (And.intro (Nat.zero_le _) (Nat.zero_le _)) (fun q h' hpo => ?_)))
        obtain ⟨rfl, rfl⟩ := hpo
        refine Exists.intro _ (And.intro (m_addsTo (W := 9) (A := w 16 0 0) (m := d_ren w p k * w 9 (k + 1) 0) (Or.inl rfl) ((x_up_j (by decide)).trans hF.1.2.1) (pk_mul _ _) (by omega)) (And.intro (And.intro (Nat.zero_le _) (Nat.zero_le _)) (fun q h' hpo => ?_)))
        obtain ⟨rfl, rfl⟩ := hpo
        refine Exists.intro _ (And.intro m_wholeAt (And.intro (And.intro (Nat.zero_le _) (Nat.zero_le _)) (fun q h' hpo => ?_)))
        obtain ⟨rfl, rfl⟩ := hpo
        refine And.intro (x_ix_nI (by omega) (by omega)) ?_
        rw [nI_clamp (by omega)]
        refine Exists.intro _ (And.intro m_tornAt (And.intro (And.intro (Nat.zero_le _) (Nat.zero_le _)) (fun q h' hpo => ?_)))
        obtain ⟨rfl, rfl⟩ := hpo
        refine And.intro (x_ix_nI (by omega) (by omega)) ?_
        rw [nI_clamp (by omega)]
        have ew3 : ∀ h : xH, x_V 233 (d + 4) [.ref 500, .int (nI p), .int (nI k + 1)] h (.int (nI (27 + 14 * p + (k + 1)))) h := by
          intro h
          have q := m_wholeAt (d := d + 3) (h := h) (p := p) (k := k + 1)
          rw [nI_succ] at q
          exact q
        refine Exists.intro _ (And.intro (ew3 _) (And.intro (And.intro (Nat.zero_le _) (Nat.zero_le _)) (fun q h' hpo => ?_)))
        obtain ⟨rfl, rfl⟩ := hpo
        refine And.intro (x_ix_nI (by omega) (by omega)) ?_
        rw [nI_clamp (by omega)]
        refine And.intro (x_ix_nI (by omega) (by omega)) ?_
        rw [nI_clamp (by omega)]
        have e13 : x_up (x_up (x_up (x_up F 501 10 (nI (min 999999999 (w 17 0 0 + (w 13 p k + w 14 p k) * w 9 k 0)))) 501 9 (nI (min 999999999 (w 16 0 0 + d_ren w p k * w 9 (k + 1) 0)))) 501 (27 + 14 * p + k) (nI 0)) 501 (31 + 14 * p + k) (nI 0) 501 (27 + 14 * p + (k + 1)) = nI (w 13 p (k + 1)) := by
          rw [x_up_j (by omega), x_up_j (by omega), x_up_j (by omega), x_up_j (by omega), h13']
        rw [← nI_add (w 13 p (k + 1)), ← e13, nI_succ] at e5
        exact e5
  unfold sp_renew s_renew
  refine x_Ct_w (by decide) (Nat.le_of_ble_eq_true rfl) ok268 [36] 8 ?_
  refine Exists.intro _ (And.intro (m_isKind h00 (by omega)) (And.intro (And.intro (Nat.zero_le _) (Nat.zero_le _)) (fun q h' hpo => ?_)))
  obtain ⟨rfl, rfl⟩ := hpo
  cases hb : x_ixb x (v 0 0 0) with
  | false =>
    refine And.intro (fun c => absurd rfl c) (fun _ => ?_)
    refine Exists.intro _ (And.intro m_refuse (And.intro (And.intro (Nat.zero_le _) (Nat.zero_le _)) (fun q h' hpo => ?_)))
    obtain ⟨rfl, rfl⟩ := hpo
    refine And.intro ?_ ⟨trivial, Nat.le_refl _, Nat.le_refl _⟩
    exact x_PM_0 hM
  | true =>
    refine And.intro (fun _ => ?_) (fun c => absurd c (by decide))
    obtain ⟨k, hk, rfl⟩ := x_ixb_t hb (by omega)
    rw [x_c, nI_clamp (by omega)]
    refine Exists.intro _ (And.intro (m_canRenew hM hB0 (by omega)) (And.intro (And.intro (Nat.zero_le _) (Nat.zero_le _)) (fun q h' hpo => ?_)))
    obtain ⟨rfl, rfl⟩ := hpo
    by_cases hk1 : k + 1 < v 0 0 0
    · rw [if_pos hk1, decide_eq_true hk1]
      refine And.intro (fun _ => ?_) (fun c => absurd c (by decide))
      refine Exists.intro _ (And.intro (m_out hM hB0) (And.intro (And.intro (Nat.zero_le _) (Nat.zero_le _)) (fun q h' hpo => ?_)))
      obtain ⟨rfl, rfl⟩ := hpo
      exact loop (v 2 0 0) 0 f _ k hk1 (Nat.zero_add _) (x_ML_0 hM)
    · rw [if_neg hk1, decide_eq_false hk1]
      refine And.intro (fun c => absurd rfl c) (fun _ => ?_)
      refine Exists.intro _ (And.intro m_refuse (And.intro (And.intro (Nat.zero_le _) (Nat.zero_le _)) (fun q h' hpo => ?_)))
      obtain ⟨rfl, rfl⟩ := hpo
      refine And.intro ?_ ⟨trivial, Nat.le_refl _, Nat.le_refl _⟩
      exact x_PM_0 hM
end C30
