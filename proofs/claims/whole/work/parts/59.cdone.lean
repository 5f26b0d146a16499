section C59
variable {f : Nat → Nat → Int32} {g : Nat → Nat → Int64} {r t : Nat} {dm : List Nat} {n d N : Nat} {v : xV} {s : xR} {NL : Nat} {ρ : Nat → Nat → Option Nat}
theorem c_buyStep_12_32_102 {k p i m ch mo bo : Nat} {F : Nat → Nat → Int32} (hC : v_C f g 12 v) (hBn : v_Bn N v) (hN : N + 998001 < 2 ^ 60) (hF : ∀ c, c ≠ 102 → F c = f c) (h2 : F 102 2 = nI ch) (h5 : F 102 5 = nI mo) (h6 : F 102 6 = nI bo) (hj : ∀ j, j ≠ 2 → j ≠ 5 → j ≠ 6 → F 102 j = f 102 j) (hp : p < v 2 0 0) (hi : i < v 1 0 0) (hm1 : 1 ≤ m) (hm : m ≤ 999) : x_J 49 (d + 4) (x_PI f g 12 102 (x_HR r t) dm n (x_oB (s_buy v p i m)) (x_oV v (s_buy v p i m)) ch mo (bo + y_is (s_buy v p i m) m 0)) 216 [some (.ref 102), some (.ref 12), some (.ref 32), some (.int (nI k)), some (.int (nI p)), some (.int (nI i)), some (.int (nI m)), none, none] [] (F, g, x_HR r t, dm, n) 0 0 := by
  have hB := v_Bn_B hBn (by omega)
  have hC1 : v_C F g 12 v := v_C_fr hC (fun k _ _ => hF k (by omega)) rfl
  refine x_wp_ok ok49 [] 6 ?_
  refine Exists.intro _ (And.intro (c_wayToBuy_12 (d := d) hC1 hB hp hi hm) (And.intro (And.intro (Nat.zero_le _) (Nat.zero_le _)) (fun q h' hpo => ?_)))
  obtain ⟨rfl, G, rfl, hG⟩ := hpo
  have hL := x_LC_G (L := 12) (by decide) hG hC1
  refine Exists.intro _ (And.intro (c_purchase_12 (d := d) hL.1 hBn (by omega) hp hi hm1 hm) (And.intro (And.intro (Nat.zero_le _) (Nat.zero_le _)) (fun q h' hpo => ?_)))
  obtain ⟨F2, G2, rfl, rfl, hF2⟩ := hpo
  have hLC := x_LC_tr hL hF2
  have e2 : F2 102 = F 102 := (hLC.2.2 102 (by decide) (by decide)).1
  have hz : ∀ z, s_buy v p i m = some z → ¬ z.1 = -1 := by
    intro z hz
    unfold s_buy at hz
    split at hz
    · rename_i hcb
      have := (v_cb_at hcb).2.2.2
      cases hz
      exact x_nIm (by omega)
    · cases hz
  refine And.intro (fun c => ?_) (fun c => ?_)
  · have c : ¬ x_oW (-1) (s_buy v p i m) = -1 := c
    have c := fun q => c ((x_oW_m1 hz).mpr q)
    rw [x_oB_of.2 c]
    have e6 : F2 102 6 + nI m = nI (bo + m) := by rw [e2, h6, nI_add]
    have ei : y_is (s_buy v p i m) m 0 = m := by
      cases ho : s_buy v p i m with
      | none => exact absurd ho c
      | some z => rfl
    rw [ei]
    refine And.intro ?_ ⟨Or.inr rfl, Nat.le_refl _, Nat.le_refl _⟩
    refine ⟨_, G2, rfl, rfl, v_C_fr hLC.1 (fun k _ _ => x_un (by omega)) rfl, hLC.2.1, fun k a b c => (x_un c).trans ((hLC.2.2 k a b).1.trans (hF k c)), fun k a b => (hLC.2.2 k a b).2, ?_, ?_, ?_, fun j a b c => ?_⟩
    · unfold x_up
      rw [x_us, x_un (by decide), e2]
      exact h2
    · unfold x_up
      rw [x_us, x_un (by decide), e2]
      exact h5
    · unfold x_up
      rw [x_us, x_us]
      exact e6
    · unfold x_up
      rw [x_us, x_un c, e2]
      exact hj j a b c
  · have c : x_oW (-1) (s_buy v p i m) = -1 := c
    have c := (x_oW_m1 hz).mp c
    rw [x_oB_of.1 c]
    refine And.intro ?_ ⟨Or.inl rfl, Nat.le_refl _, Nat.le_refl _⟩
    have ei : y_is (s_buy v p i m) m 0 = 0 := by rw [c]; rfl
    rw [ei]
    exact ⟨F2, G2, rfl, rfl, hLC.1, hLC.2.1, fun k a b c => ((hLC.2.2 k a b).1.trans (hF k c)), fun k a b => (hLC.2.2 k a b).2, by rw [e2]; exact h2, by rw [e2]; exact h5, by rw [e2]; exact h6, fun j a b c => by rw [e2]; exact hj j a b c⟩
theorem c_isDone_12_32_102 {k ch mo bo : Nat} (hC : v_C f g 12 v) (hBn : v_Bn N v) (hN : N + 998001 < 2 ^ 60) (hSC : x_SC f 32 s NL) (hNL : NL ≤ 60) (hk : k < NL) (hli : y_li s (v 2 0 0) (v 0 0 0) (v 1 0 0) k) (he : s 0 k ≠ 23) (hch : ch < 65536) (h2 : f 102 2 = nI ch) (h5 : f 102 5 = nI mo) (h6 : f 102 6 = nI bo) : x_Ct 49 (d + 4) [.ref 102, .ref 12, .ref 32, .int (nI k)] (f, g, x_HR r t, dm, n) (x_PI f g 12 102 (x_HR r t) dm n (x_oB (y_ac s v ch k)) (x_oV v (y_ac s v ch k)) (y_cc s v ch k) (mo + y_mo s v ch k) (bo + y_bo s v ch k)) := by
  have hB := v_Bn_B hBn (by omega)
  have bK := v_B_K hB
  have bG := v_B_G hB
  have bP := v_B_P hB
  have h24 := y_li_24 hli
  have hw24 := y_wd_24 h24.2
  obtain ⟨w1, w2, w3, w4, w5⟩ := hSC.2 k hk
  have w1 : f 33 k = nI (y_wd (s 0 k)) := w1
  refine x_Ct_w (by decide) (Nat.le_of_ble_eq_true rfl) ok49 [24] 6 ?_
  refine And.intro (x_ix_nI (by omega) (by omega)) ?_
  rw [nI_clamp (by omega)]
  refine And.intro (x_ix_nI (by omega) (by omega)) ?_
  rw [nI_clamp (by omega)]
  refine And.intro (x_ix_nI (by omega) (by omega)) ?_
  rw [nI_clamp (by omega)]
  show x_J 49 (d + 4) (x_PI f g 12 102 (x_HR r t) dm n (x_oB (y_ac s v ch k)) (x_oV v (y_ac s v ch k)) (y_cc s v ch k) (mo + y_mo s v ch k) (bo + y_bo s v ch k)) 24 [some (.ref 102), some (.ref 12), some (.ref 32), some (.int (nI k)), some (.int (f 34 k)), some (.int (f 35 k)), some (.int (f 36 k)), none, none] [] (f, g, x_HR r t, dm, n) 0 0
  have hli0 := hli
  unfold y_li at hli0
  have dflt : 18 ≤ s 0 k → s 0 k ≤ 24 → x_J 49 (d + 4) (x_PI f g 12 102 (x_HR r t) dm n (x_oB (y_ac s v ch k)) (x_oV v (y_ac s v ch k)) (y_cc s v ch k) (mo + y_mo s v ch k) (bo + y_bo s v ch k)) 24 [some (.ref 102), some (.ref 12), some (.ref 32), some (.int (nI k)), some (.int (f 34 k)), some (.int (f 35 k)), some (.int (f 36 k)), none, none] [] (f, g, x_HR r t, dm, n) 0 0 := by
    intro q1 q2
    have ww : 18 ≤ (f 33 k).toInt := by
      rw [w1, nI_toInt (by omega)]
      unfold y_wd
      split <;> omega
    rw [y_ac_d q1, y_cc_d (by omega), y_mo_d (by omega), y_bo_d (by omega) (by omega), Nat.add_zero, Nat.add_zero]
    refine x_wp_ok ok49 [] 6 ?_
    refine And.intro (x_ix_nI (by omega) (by omega)) ?_
    rw [nI_clamp (by omega)]
    refine And.intro (And.intro (fun c => absurd (Int.le_trans ww (Int.le_of_eq c)) (by decide)) (And.intro (fun c => absurd (Int.le_trans ww (Int.le_of_eq c)) (by decide)) (And.intro (fun c => absurd (Int.le_trans ww (Int.le_of_eq c)) (by decide)) (And.intro (fun c => absurd (Int.le_trans ww (Int.le_of_eq c)) (by decide)) (And.intro (fun c => absurd (Int.le_trans ww (Int.le_of_eq c)) (by decide)) (And.intro (fun c => absurd (Int.le_trans ww (Int.le_of_eq c)) (by decide)) (And.intro (fun c => absurd (Int.le_trans ww (Int.le_of_eq c)) (by decide)) trivial))))))) (fun _ => ?_)
    refine And.intro ?_ ⟨Or.inr rfl, Nat.le_refl _, Nat.le_refl _⟩
    exact ⟨f, g, rfl, rfl, x_LE_of (x_LC_0 hC) (by decide) (by decide) h2 h5 h6⟩
  rcases hli0 with ⟨hx | hx | hx, h1, hi, h3, h4⟩ | ⟨hx | hx, h1, hi, h3, h4⟩ | ⟨hx, h3, h4⟩ | (hx | hx) | ⟨hx | ⟨hx, h1⟩ | ⟨hx, h1⟩, h3, h4⟩ | ⟨hx, h3, h4⟩ | hx
  · have hop : s 0 k = 11 := hx
    have ww : (f 33 k).toInt = 11 := by rw [w1, hop]; rfl
    obtain ⟨wp, wi⟩ := w2 (by omega)
    have wp : f 34 k = nI (s 1 k) := wp
    have wi : f 35 k = nI (s 2 k) := wi
    have wm : f 36 k = nI (s 3 k) := w4 (by omega) (by omega) (by omega)
    have ea : y_ac s v ch k = s_pay v (s 1 k) (s 2 k) (s 3 k) := by unfold y_ac; rw [hop]; rfl
    rw [wp, wi, wm, ea, y_cc_d (by omega), y_mo_d (by omega), y_bo_d (by omega) (by omega), Nat.add_zero, Nat.add_zero]
    refine x_wp_ok ok49 [] 6 ?_
    refine And.intro (x_ix_nI (by omega) (by omega)) ?_
    rw [nI_clamp (by omega)]
    refine And.intro (And.intro (fun _ => ?_) (And.intro (fun c => absurd (ww.symm.trans c) (by decide)) (And.intro (fun c => absurd (ww.symm.trans c) (by decide)) (And.intro (fun c => absurd (ww.symm.trans c) (by decide)) (And.intro (fun c => absurd (ww.symm.trans c) (by decide)) (And.intro (fun c => absurd (ww.symm.trans c) (by decide)) (And.intro (fun c => absurd (ww.symm.trans c) (by decide)) trivial))))))) (fun c => absurd c (by rw [ww]; decide))
    refine Exists.intro _ (And.intro (c_printFor_12 (d := d + 2) hC hB h1 hi (by omega)) (And.intro (And.intro (Nat.zero_le _) (Nat.zero_le _)) (fun q h' hpo => ?_)))
    obtain ⟨F, G, rfl, rfl, hF⟩ := x_PO_of hC hpo
    have hz : ∀ z, s_pay v (s 1 k) (s 2 k) (s 3 k) = some z → ¬ z.1 = -1 := by
      intro z hz
      unfold s_pay at hz
      split at hz
      · cases hz
      · cases hz
        exact x_nIm (by omega)
    refine And.intro (fun c => ?_) (fun c => ?_)
    · have c : x_oW (-1) (s_pay v (s 1 k) (s 2 k) (s 3 k)) = -1 := c
      have c := (x_oW_m1 hz).mp c
      rw [x_oB_of.1 c]
      refine And.intro ?_ ⟨Or.inl rfl, Nat.le_refl _, Nat.le_refl _⟩
      exact ⟨F, G, rfl, rfl, x_LE_of hF (by decide) (by decide) h2 h5 h6⟩
    · have c : ¬ x_oW (-1) (s_pay v (s 1 k) (s 2 k) (s 3 k)) = -1 := c
      have c := fun q => c ((x_oW_m1 hz).mpr q)
      rw [x_oB_of.2 c]
      refine And.intro ?_ ⟨Or.inr rfl, Nat.le_refl _, Nat.le_refl _⟩
      exact ⟨F, G, rfl, rfl, x_LE_of hF (by decide) (by decide) h2 h5 h6⟩
  · have hop : s 0 k = 14 := hx
    have ww : (f 33 k).toInt = 14 := by rw [w1, hop]; rfl
    obtain ⟨wp, wi⟩ := w2 (by omega)
    have wp : f 34 k = nI (s 1 k) := wp
    have wi : f 35 k = nI (s 2 k) := wi
    have wm : f 36 k = nI (s 3 k) := w4 (by omega) (by omega) (by omega)
    have ea : y_ac s v ch k = s_tear v (s 1 k) (s 2 k) (s 3 k) := by unfold y_ac; rw [hop]; rfl
    rw [wp, wi, wm, ea, y_cc_d (by omega), y_mo_d (by omega), y_bo_d (by omega) (by omega), Nat.add_zero, Nat.add_zero]
    refine x_wp_ok ok49 [] 6 ?_
    refine And.intro (x_ix_nI (by omega) (by omega)) ?_
    rw [nI_clamp (by omega)]
    refine And.intro (And.intro (fun c => absurd (ww.symm.trans c) (by decide)) (And.intro (fun c => absurd (ww.symm.trans c) (by decide)) (And.intro (fun c => absurd (ww.symm.trans c) (by decide)) (And.intro (fun _ => ?_) (And.intro (fun c => absurd (ww.symm.trans c) (by decide)) (And.intro (fun c => absurd (ww.symm.trans c) (by decide)) (And.intro (fun c => absurd (ww.symm.trans c) (by decide)) trivial))))))) (fun c => absurd c (by rw [ww]; decide))
    refine Exists.intro _ (And.intro (c_tearUp_12 (d := d + 2) hC hB h1 hi (by omega)) (And.intro (And.intro (Nat.zero_le _) (Nat.zero_le _)) (fun q h' hpo => ?_)))
    obtain ⟨F, G, rfl, rfl, hF⟩ := x_PO_of hC hpo
    have hz : ∀ z, s_tear v (s 1 k) (s 2 k) (s 3 k) = some z → ¬ z.1 = -1 := by
      intro z hz
      unfold s_tear at hz
      split at hz
      · cases hz
      · cases hz
        exact x_nIm (by omega)
    refine And.intro (fun c => ?_) (fun c => ?_)
    · have c : x_oW (-1) (s_tear v (s 1 k) (s 2 k) (s 3 k)) = -1 := c
      have c := (x_oW_m1 hz).mp c
      rw [x_oB_of.1 c]
      refine And.intro ?_ ⟨Or.inl rfl, Nat.le_refl _, Nat.le_refl _⟩
      exact ⟨F, G, rfl, rfl, x_LE_of hF (by decide) (by decide) h2 h5 h6⟩
    · have c : ¬ x_oW (-1) (s_tear v (s 1 k) (s 2 k) (s 3 k)) = -1 := c
      have c := fun q => c ((x_oW_m1 hz).mpr q)
      rw [x_oB_of.2 c]
      refine And.intro ?_ ⟨Or.inr rfl, Nat.le_refl _, Nat.le_refl _⟩
      exact ⟨F, G, rfl, rfl, x_LE_of hF (by decide) (by decide) h2 h5 h6⟩
  · have hop : s 0 k = 15 := hx
    have ww : (f 33 k).toInt = 15 := by rw [w1, hop]; rfl
    obtain ⟨wp, wi⟩ := w2 (by omega)
    have wp : f 34 k = nI (s 1 k) := wp
    have wi : f 35 k = nI (s 2 k) := wi
    have wm : f 36 k = nI (s 3 k) := w4 (by omega) (by omega) (by omega)
    have ea : y_ac s v ch k = s_mend v (s 1 k) (s 2 k) (s 3 k) := by unfold y_ac; rw [hop]; rfl
    rw [wp, wi, wm, ea, y_cc_d (by omega), y_mo_d (by omega), y_bo_d (by omega) (by omega), Nat.add_zero, Nat.add_zero]
    refine x_wp_ok ok49 [] 6 ?_
    refine And.intro (x_ix_nI (by omega) (by omega)) ?_
    rw [nI_clamp (by omega)]
    refine And.intro (And.intro (fun c => absurd (ww.symm.trans c) (by decide)) (And.intro (fun c => absurd (ww.symm.trans c) (by decide)) (And.intro (fun c => absurd (ww.symm.trans c) (by decide)) (And.intro (fun c => absurd (ww.symm.trans c) (by decide)) (And.intro (fun _ => ?_) (And.intro (fun c => absurd (ww.symm.trans c) (by decide)) (And.intro (fun c => absurd (ww.symm.trans c) (by decide)) trivial))))))) (fun c => absurd c (by rw [ww]; decide))
    refine Exists.intro _ (And.intro (c_mendTorn_12 (d := d + 2) hC hB h1 hi (by omega)) (And.intro (And.intro (Nat.zero_le _) (Nat.zero_le _)) (fun q h' hpo => ?_)))
    obtain ⟨F, G, rfl, rfl, hF⟩ := x_PO_of hC hpo
    have hz : ∀ z, s_mend v (s 1 k) (s 2 k) (s 3 k) = some z → ¬ z.1 = -1 := by
      intro z hz
      unfold s_mend at hz
      split at hz
      · cases hz
      · cases hz
        have : d_back v (s 1 k) (s 2 k) (s 3 k) ≤ 9999 - v 13 (s 1 k) (s 2 k) := Nat.min_le_right _ _
        exact x_nIm (by omega)
    refine And.intro (fun c => ?_) (fun c => ?_)
    · have c : x_oW (-1) (s_mend v (s 1 k) (s 2 k) (s 3 k)) = -1 := c
      have c := (x_oW_m1 hz).mp c
      rw [x_oB_of.1 c]
      refine And.intro ?_ ⟨Or.inl rfl, Nat.le_refl _, Nat.le_refl _⟩
      exact ⟨F, G, rfl, rfl, x_LE_of hF (by decide) (by decide) h2 h5 h6⟩
    · have c : ¬ x_oW (-1) (s_mend v (s 1 k) (s 2 k) (s 3 k)) = -1 := c
      have c := fun q => c ((x_oW_m1 hz).mpr q)
      rw [x_oB_of.2 c]
      refine And.intro ?_ ⟨Or.inr rfl, Nat.le_refl _, Nat.le_refl _⟩
      exact ⟨F, G, rfl, rfl, x_LE_of hF (by decide) (by decide) h2 h5 h6⟩
  · have ww : (f 33 k).toInt = 12 := by rw [w1, hx]; rfl
    obtain ⟨wp, wi⟩ := w2 (by omega)
    have wp : f 34 k = nI (s 1 k) := wp
    have wi : f 35 k = nI (s 2 k) := wi
    have wm : f 36 k = nI (s 3 k) := w4 (by omega) (by omega) (by omega)
    have ea : y_ac s v ch k = s_buy v (s 1 k) (s 2 k) (s 3 k) := by unfold y_ac; rw [hx]; rfl
    have eb : y_bo s v ch k = y_is (s_buy v (s 1 k) (s 2 k) (s 3 k)) (s 3 k) 0 := by
      unfold y_bo
      rw [if_pos hx, ea]
    rw [wp, wi, wm, ea, y_cc_d (by omega), y_mo_d (by omega), eb, Nat.add_zero]
    refine x_wp_ok ok49 [216] 6 ?_
    refine And.intro (x_ix_nI (by omega) (by omega)) ?_
    rw [nI_clamp (by omega)]
    refine And.intro (And.intro (fun c => absurd (ww.symm.trans c) (by decide)) (And.intro (fun _ => ?_) (And.intro (fun c => absurd (ww.symm.trans c) (by decide)) (And.intro (fun c => absurd (ww.symm.trans c) (by decide)) (And.intro (fun c => absurd (ww.symm.trans c) (by decide)) (And.intro (fun c => absurd (ww.symm.trans c) (by decide)) (And.intro (fun c => absurd (ww.symm.trans c) (by decide)) trivial))))))) (fun c => absurd c (by rw [ww]; decide))
    exact c_buyStep_12_32_102 hC hBn hN (fun _ _ => rfl) h2 h5 h6 (fun _ _ _ _ => rfl) h1 hi h3 (by omega)
  · have hop : s 0 k = 13 := hx
    have ww : (f 33 k).toInt = 13 := by rw [w1, hop]; rfl
    obtain ⟨wp, wi⟩ := w2 (by omega)
    have wp : f 34 k = nI (s 1 k) := wp
    have wi : f 35 k = nI (s 2 k) := wi
    have wm : f 36 k = nI (s 3 k) := w4 (by omega) (by omega) (by omega)
    have ea : y_ac s v ch k = s_sell v (s 1 k) (s 2 k) (s 3 k) := by unfold y_ac; rw [hop]; rfl
    rw [wp, wi, wm, ea, y_cc_d (by omega), y_mo_d (by omega), y_bo_d (by omega) (by omega), Nat.add_zero, Nat.add_zero]
    refine x_wp_ok ok49 [] 6 ?_
    refine And.intro (x_ix_nI (by omega) (by omega)) ?_
    rw [nI_clamp (by omega)]
    refine And.intro (And.intro (fun c => absurd (ww.symm.trans c) (by decide)) (And.intro (fun c => absurd (ww.symm.trans c) (by decide)) (And.intro (fun _ => ?_) (And.intro (fun c => absurd (ww.symm.trans c) (by decide)) (And.intro (fun c => absurd (ww.symm.trans c) (by decide)) (And.intro (fun c => absurd (ww.symm.trans c) (by decide)) (And.intro (fun c => absurd (ww.symm.trans c) (by decide)) trivial))))))) (fun c => absurd c (by rw [ww]; decide))
    refine Exists.intro _ (And.intro (c_takeGoods_12 (d := d) hC hBn (by omega) h1 hi h3 (by omega)) (And.intro (And.intro (Nat.zero_le _) (Nat.zero_le _)) (fun q h' hpo => ?_)))
    obtain ⟨F, G, rfl, rfl, hF⟩ := hpo
    have hz : ∀ z, s_sell v (s 1 k) (s 2 k) (s 3 k) = some z → ¬ z.1 = -1 := by
      intro z hz
      unfold s_sell at hz
      split at hz
      · rename_i hcs
        have := (v_cs_at hcs).2.2.2.1
        cases hz
        exact x_nIm (by omega)
      · cases hz
    refine And.intro (fun c => ?_) (fun c => ?_)
    · have c : x_oW (-1) (s_sell v (s 1 k) (s 2 k) (s 3 k)) = -1 := c
      have c := (x_oW_m1 hz).mp c
      rw [x_oB_of.1 c]
      refine And.intro ?_ ⟨Or.inl rfl, Nat.le_refl _, Nat.le_refl _⟩
      exact ⟨F, G, rfl, rfl, x_LE_of hF (by decide) (by decide) h2 h5 h6⟩
    · have c : ¬ x_oW (-1) (s_sell v (s 1 k) (s 2 k) (s 3 k)) = -1 := c
      have c := fun q => c ((x_oW_m1 hz).mpr q)
      rw [x_oB_of.2 c]
      refine And.intro ?_ ⟨Or.inr rfl, Nat.le_refl _, Nat.le_refl _⟩
      exact ⟨F, G, rfl, rfl, x_LE_of hF (by decide) (by decide) h2 h5 h6⟩
  · have ww : (f 33 k).toInt = 16 := by rw [w1, hx]; rfl
    have wm : f 36 k = nI (s 3 k) := w4 (by omega) (by omega) (by omega)
    have ea : y_ac s v ch k = s_mn v (s 3 k) := by unfold y_ac; rw [hx]; rfl
    have eb : y_mo s v ch k = y_is (s_mn v (s 3 k)) (s 3 k) 0 := by
      unfold y_mo
      rw [if_pos hx, ea]
    rw [wm, ea, y_cc_d (by omega), eb, y_bo_d (by omega) (by omega), Nat.add_zero]
    refine x_wp_ok ok49 [] 6 ?_
    refine And.intro (x_ix_nI (by omega) (by omega)) ?_
    rw [nI_clamp (by omega)]
    refine And.intro (And.intro (fun c => absurd (ww.symm.trans c) (by decide)) (And.intro (fun c => absurd (ww.symm.trans c) (by decide)) (And.intro (fun c => absurd (ww.symm.trans c) (by decide)) (And.intro (fun c => absurd (ww.symm.trans c) (by decide)) (And.intro (fun c => absurd (ww.symm.trans c) (by decide)) (And.intro (fun _ => ?_) (And.intro (fun c => absurd (ww.symm.trans c) (by decide)) trivial))))))) (fun c => absurd c (by rw [ww]; decide))
    have cl := c_passMonths_12 (d := d) (r := r) (t := t) (dm := dm) (n := n) (m := s 3 k) hC hBn hN (by omega)
    unfold s_mn
    by_cases hc : 9999 < v 6 0 0 + s 3 k
    · rw [if_pos hc] at cl
      rw [if_pos hc]
      refine Exists.intro _ (And.intro cl (And.intro (And.intro (Nat.zero_le _) (Nat.zero_le _)) (fun q h' hpo => ?_)))
      obtain ⟨rfl, rfl⟩ := hpo
      refine Exists.intro _ (And.intro (c_isPassed_102 (d := d + 3) (b := false) h5) (And.intro (And.intro (Nat.zero_le _) (Nat.zero_le _)) (fun q h' hpo => ?_)))
      obtain ⟨rfl, rfl⟩ := hpo
      refine And.intro ?_ ⟨Or.inl rfl, Nat.le_refl _, Nat.le_refl _⟩
      refine ⟨_, g, rfl, rfl, v_C_fr hC (fun k _ _ => x_un (by omega)) rfl, rfl, fun k a b c => x_un c, fun k a b => rfl, ?_, ?_, ?_, fun j a b c => ?_⟩
      · unfold x_up
        rw [x_us, x_un (by decide)]
        exact h2
      · unfold x_up
        rw [x_us, x_us]
        rfl
      · unfold x_up
        rw [x_us, x_un (by decide)]
        exact h6
      · unfold x_up
        rw [x_us, x_un b]
    · rw [if_neg hc] at cl
      rw [if_neg hc]
      refine Exists.intro _ (And.intro cl (And.intro (And.intro (Nat.zero_le _) (Nat.zero_le _)) (fun q h' hpo => ?_)))
      obtain ⟨F, G, rfl, rfl, hF⟩ := hpo
      have e2 : F 102 = f 102 := (hF.2.2 102 (by decide) (by decide)).1
      refine Exists.intro _ (And.intro (c_isPassed_102 (d := d + 3) (b := true) (f := F) (mo := mo) (by rw [e2]; exact h5)) (And.intro (And.intro (Nat.zero_le _) (Nat.zero_le _)) (fun q h' hpo => ?_)))
      obtain ⟨rfl, rfl⟩ := hpo
      refine And.intro ?_ ⟨Or.inr rfl, Nat.le_refl _, Nat.le_refl _⟩
      refine ⟨_, G, rfl, rfl, v_C_fr hF.1 (fun k _ _ => x_un (by omega)) rfl, hF.2.1, fun k a b c => (x_un c).trans (hF.2.2 k a b).1, fun k a b => (hF.2.2 k a b).2, ?_, ?_, ?_, fun j a b c => ?_⟩
      · unfold x_up
        rw [x_us, x_un (by decide), e2]
        exact h2
      · unfold x_up
        rw [x_us, x_us]
        rfl
      · unfold x_up
        rw [x_us, x_un (by decide), e2]
        exact h6
      · unfold x_up
        rw [x_us, x_un b, e2]
  · have ww : (f 33 k).toInt = 17 := by rw [w1, hx]; rfl
    have o1q : v_ok v 1 0 0 := ⟨rfl, rfl⟩
    have h1q : f 12 1 = nI (v 1 0 0) := hC.1 1 0 0 o1q
    have b1q : v 1 0 0 ≤ 5 := (hB.1 1 0 0 o1q).2
    have o2q : v_ok v 2 0 0 := ⟨rfl, rfl⟩
    have h2q : f 12 2 = nI (v 2 0 0) := hC.1 2 0 0 o2q
    have b2q : v 2 0 0 ≤ 5 := (hB.1 2 0 0 o2q).2
    have ea : y_ac s v ch k = (if v 2 0 0 = 0 ∨ v 1 0 0 = 0 then none else s_buy v (y_dr ch / 8 % v 2 0 0) (y_dr (y_dr ch) / 8 % v 1 0 0) 1) := by unfold y_ac; rw [hx]; rfl
    have eb : y_bo s v ch k = y_is (y_ac s v ch k) 1 0 := by
      unfold y_bo
      rw [if_neg (by omega), if_pos hx]
    by_cases hz : v 2 0 0 = 0 ∨ v 1 0 0 = 0
    · have ec : y_cc s v ch k = ch := if_neg (fun q => q.2 hz)
      rw [if_pos hz] at ea
      rw [eb, ea, ec, y_mo_d (by omega), Nat.add_zero]
      refine x_wp_ok ok49 [216] 6 ?_
      refine And.intro (x_ix_nI (by omega) (by omega)) ?_
      rw [nI_clamp (by omega)]
      refine And.intro (And.intro (fun c => absurd (ww.symm.trans c) (by decide)) (And.intro (fun c => absurd (ww.symm.trans c) (by decide)) (And.intro (fun c => absurd (ww.symm.trans c) (by decide)) (And.intro (fun c => absurd (ww.symm.trans c) (by decide)) (And.intro (fun c => absurd (ww.symm.trans c) (by decide)) (And.intro (fun c => absurd (ww.symm.trans c) (by decide)) (And.intro (fun _ => ?_) trivial))))))) (fun c => absurd c (by rw [ww]; decide))
      refine And.intro (fun c => ?_) (fun c => ?_)
      · refine And.intro ?_ ⟨Or.inl rfl, Nat.le_refl _, Nat.le_refl _⟩
        exact ⟨f, g, rfl, rfl, x_LE_of (x_LC_0 hC) (by decide) (by decide) h2 h5 h6⟩
      · have c : ¬ f 12 2 = nI 0 := c
        rw [h2q, nI_eq (by omega) (by decide)] at c
        refine And.intro (fun c2 => ?_) (fun c2 => ?_)
        · have c2 : ¬ f 12 1 = nI 0 := c2
          rw [h1q, nI_eq (by omega) (by decide)] at c2
          omega
        · refine And.intro ?_ ⟨Or.inl rfl, Nat.le_refl _, Nat.le_refl _⟩
          exact ⟨f, g, rfl, rfl, x_LE_of (x_LC_0 hC) (by decide) (by decide) h2 h5 h6⟩
    · have ec : y_cc s v ch k = y_dr (y_dr ch) := if_pos ⟨hx, hz⟩
      rw [if_neg hz] at ea
      rw [eb, ea, ec, y_mo_d (by omega), Nat.add_zero]
      refine x_wp_ok ok49 [216] 6 ?_
      refine And.intro (x_ix_nI (by omega) (by omega)) ?_
      rw [nI_clamp (by omega)]
      refine And.intro (And.intro (fun c => absurd (ww.symm.trans c) (by decide)) (And.intro (fun c => absurd (ww.symm.trans c) (by decide)) (And.intro (fun c => absurd (ww.symm.trans c) (by decide)) (And.intro (fun c => absurd (ww.symm.trans c) (by decide)) (And.intro (fun c => absurd (ww.symm.trans c) (by decide)) (And.intro (fun c => absurd (ww.symm.trans c) (by decide)) (And.intro (fun _ => ?_) trivial))))))) (fun c => absurd c (by rw [ww]; decide))
      refine And.intro (fun c => ?_) (fun c => ?_)
      · have c : f 12 2 = nI 0 := c
        rw [h2q, nI_eq (by omega) (by decide)] at c
        omega
      · refine And.intro (fun c2 => ?_) (fun c2 => ?_)
        · have hd : y_dr ch < 65536 := Nat.mod_lt _ (by decide)
          have c1 := c_draw_102 (d := d + 2) (g := g) (r := r) (t := t) (dm := dm) (n := n) (m := v 2 0 0) h2 hch (by omega) (by omega)
          rw [← h2q] at c1
          refine Exists.intro _ (And.intro c1 (And.intro (And.intro (Nat.zero_le _) (Nat.zero_le _)) (fun q h' hpo => ?_)))
          obtain ⟨rfl, rfl⟩ := hpo
          have c3 := c_draw_102 (d := d + 2) (f := x_up f 102 2 (nI (y_dr ch))) (ch := y_dr ch) (g := g) (r := r) (t := t) (dm := dm) (n := n) (m := v 1 0 0) (by unfold x_up; rw [x_us, x_us]) hd (by omega) (by omega)
          rw [← h1q, ← (show x_up f 102 2 (nI (y_dr ch)) 12 1 = f 12 1 from rfl)] at c3
          refine Exists.intro _ (And.intro c3 (And.intro (And.intro (Nat.zero_le _) (Nat.zero_le _)) (fun q h' hpo => ?_)))
          obtain ⟨rfl, rfl⟩ := hpo
          refine c_buyStep_12_32_102 hC hBn hN (fun c hc => (x_un hc).trans (x_un hc)) ?_ ?_ ?_ (fun j a b c => ?_) (Nat.mod_lt _ (by omega)) (Nat.mod_lt _ (by omega)) (Nat.le_refl 1) (by decide)
          · unfold x_up
            rw [x_us, x_us]
          · unfold x_up
            rw [x_us, x_un (by decide), x_us, x_un (by decide)]
            exact h5
          · unfold x_up
            rw [x_us, x_un (by decide), x_us, x_un (by decide)]
            exact h6
          · unfold x_up
            rw [x_us, x_un a, x_us, x_un a]
        · have c2 : f 12 1 = nI 0 := c2
          rw [h1q, nI_eq (by omega) (by decide)] at c2
          omega
  · exact dflt (by omega) (by omega)
  · exact dflt (by omega) (by omega)
  · exact dflt (by omega) (by omega)
  · exact dflt (by omega) (by omega)
  · exact dflt (by omega) (by omega)
  · exact absurd hx he
theorem c_buyStep_22_32_102 {k p i m ch mo bo : Nat} {F : Nat → Nat → Int32} (hC : v_C f g 22 v) (hBn : v_Bn N v) (hN : N + 998001 < 2 ^ 60) (hF : ∀ c, c ≠ 102 → F c = f c) (h2 : F 102 2 = nI ch) (h5 : F 102 5 = nI mo) (h6 : F 102 6 = nI bo) (hj : ∀ j, j ≠ 2 → j ≠ 5 → j ≠ 6 → F 102 j = f 102 j) (hp : p < v 2 0 0) (hi : i < v 1 0 0) (hm1 : 1 ≤ m) (hm : m ≤ 999) : x_J 49 (d + 4) (x_PI f g 22 102 (x_HR r t) dm n (x_oB (s_buy v p i m)) (x_oV v (s_buy v p i m)) ch mo (bo + y_is (s_buy v p i m) m 0)) 216 [some (.ref 102), some (.ref 22), some (.ref 32), some (.int (nI k)), some (.int (nI p)), some (.int (nI i)), some (.int (nI m)), none, none] [] (F, g, x_HR r t, dm, n) 0 0 := by
  have hB := v_Bn_B hBn (by omega)
  have hC1 : v_C F g 22 v := v_C_fr hC (fun k _ _ => hF k (by omega)) rfl
  refine x_wp_ok ok49 [] 6 ?_
  refine Exists.intro _ (And.intro (c_wayToBuy_22 (d := d) hC1 hB hp hi hm) (And.intro (And.intro (Nat.zero_le _) (Nat.zero_le _)) (fun q h' hpo => ?_)))
  obtain ⟨rfl, G, rfl, hG⟩ := hpo
  have hL := x_LC_G (L := 22) (by decide) hG hC1
  refine Exists.intro _ (And.intro (c_purchase_22 (d := d) hL.1 hBn (by omega) hp hi hm1 hm) (And.intro (And.intro (Nat.zero_le _) (Nat.zero_le _)) (fun q h' hpo => ?_)))
  obtain ⟨F2, G2, rfl, rfl, hF2⟩ := hpo
  have hLC := x_LC_tr hL hF2
  have e2 : F2 102 = F 102 := (hLC.2.2 102 (by decide) (by decide)).1
  have hz : ∀ z, s_buy v p i m = some z → ¬ z.1 = -1 := by
    intro z hz
    unfold s_buy at hz
    split at hz
    · rename_i hcb
      have := (v_cb_at hcb).2.2.2
      cases hz
      exact x_nIm (by omega)
    · cases hz
  refine And.intro (fun c => ?_) (fun c => ?_)
  · have c : ¬ x_oW (-1) (s_buy v p i m) = -1 := c
    have c := fun q => c ((x_oW_m1 hz).mpr q)
    rw [x_oB_of.2 c]
    have e6 : F2 102 6 + nI m = nI (bo + m) := by rw [e2, h6, nI_add]
    have ei : y_is (s_buy v p i m) m 0 = m := by
      cases ho : s_buy v p i m with
      | none => exact absurd ho c
      | some z => rfl
    rw [ei]
    refine And.intro ?_ ⟨Or.inr rfl, Nat.le_refl _, Nat.le_refl _⟩
    refine ⟨_, G2, rfl, rfl, v_C_fr hLC.1 (fun k _ _ => x_un (by omega)) rfl, hLC.2.1, fun k a b c => (x_un c).trans ((hLC.2.2 k a b).1.trans (hF k c)), fun k a b => (hLC.2.2 k a b).2, ?_, ?_, ?_, fun j a b c => ?_⟩
    · unfold x_up
      rw [x_us, x_un (by decide), e2]
      exact h2
    · unfold x_up
      rw [x_us, x_un (by decide), e2]
      exact h5
    · unfold x_up
      rw [x_us, x_us]
      exact e6
    · unfold x_up
      rw [x_us, x_un c, e2]
      exact hj j a b c
  · have c : x_oW (-1) (s_buy v p i m) = -1 := c
    have c := (x_oW_m1 hz).mp c
    rw [x_oB_of.1 c]
    refine And.intro ?_ ⟨Or.inl rfl, Nat.le_refl _, Nat.le_refl _⟩
    have ei : y_is (s_buy v p i m) m 0 = 0 := by rw [c]; rfl
    rw [ei]
    exact ⟨F2, G2, rfl, rfl, hLC.1, hLC.2.1, fun k a b c => ((hLC.2.2 k a b).1.trans (hF k c)), fun k a b => (hLC.2.2 k a b).2, by rw [e2]; exact h2, by rw [e2]; exact h5, by rw [e2]; exact h6, fun j a b c => by rw [e2]; exact hj j a b c⟩
theorem c_isDone_22_32_102 {k ch mo bo : Nat} (hC : v_C f g 22 v) (hBn : v_Bn N v) (hN : N + 998001 < 2 ^ 60) (hSC : x_SC f 32 s NL) (hNL : NL ≤ 60) (hk : k < NL) (hli : y_li s (v 2 0 0) (v 0 0 0) (v 1 0 0) k) (he : s 0 k ≠ 23) (hch : ch < 65536) (h2 : f 102 2 = nI ch) (h5 : f 102 5 = nI mo) (h6 : f 102 6 = nI bo) : x_Ct 49 (d + 4) [.ref 102, .ref 22, .ref 32, .int (nI k)] (f, g, x_HR r t, dm, n) (x_PI f g 22 102 (x_HR r t) dm n (x_oB (y_ac s v ch k)) (x_oV v (y_ac s v ch k)) (y_cc s v ch k) (mo + y_mo s v ch k) (bo + y_bo s v ch k)) := by
  have hB := v_Bn_B hBn (by omega)
  have bK := v_B_K hB
  have bG := v_B_G hB
  have bP := v_B_P hB
  have h24 := y_li_24 hli
  have hw24 := y_wd_24 h24.2
  obtain ⟨w1, w2, w3, w4, w5⟩ := hSC.2 k hk
  have w1 : f 33 k = nI (y_wd (s 0 k)) := w1
  refine x_Ct_w (by decide) (Nat.le_of_ble_eq_true rfl) ok49 [24] 6 ?_
  refine And.intro (x_ix_nI (by omega) (by omega)) ?_
  rw [nI_clamp (by omega)]
  refine And.intro (x_ix_nI (by omega) (by omega)) ?_
  rw [nI_clamp (by omega)]
  refine And.intro (x_ix_nI (by omega) (by omega)) ?_
  rw [nI_clamp (by omega)]
  show x_J 49 (d + 4) (x_PI f g 22 102 (x_HR r t) dm n (x_oB (y_ac s v ch k)) (x_oV v (y_ac s v ch k)) (y_cc s v ch k) (mo + y_mo s v ch k) (bo + y_bo s v ch k)) 24 [some (.ref 102), some (.ref 22), some (.ref 32), some (.int (nI k)), some (.int (f 34 k)), some (.int (f 35 k)), some (.int (f 36 k)), none, none] [] (f, g, x_HR r t, dm, n) 0 0
  have hli0 := hli
  unfold y_li at hli0
  have dflt : 18 ≤ s 0 k → s 0 k ≤ 24 → x_J 49 (d + 4) (x_PI f g 22 102 (x_HR r t) dm n (x_oB (y_ac s v ch k)) (x_oV v (y_ac s v ch k)) (y_cc s v ch k) (mo + y_mo s v ch k) (bo + y_bo s v ch k)) 24 [some (.ref 102), some (.ref 22), some (.ref 32), some (.int (nI k)), some (.int (f 34 k)), some (.int (f 35 k)), some (.int (f 36 k)), none, none] [] (f, g, x_HR r t, dm, n) 0 0 := by
    intro q1 q2
    have ww : 18 ≤ (f 33 k).toInt := by
      rw [w1, nI_toInt (by omega)]
      unfold y_wd
      split <;> omega
    rw [y_ac_d q1, y_cc_d (by omega), y_mo_d (by omega), y_bo_d (by omega) (by omega), Nat.add_zero, Nat.add_zero]
    refine x_wp_ok ok49 [] 6 ?_
    refine And.intro (x_ix_nI (by omega) (by omega)) ?_
    rw [nI_clamp (by omega)]
    refine And.intro (And.intro (fun c => absurd (Int.le_trans ww (Int.le_of_eq c)) (by decide)) (And.intro (fun c => absurd (Int.le_trans ww (Int.le_of_eq c)) (by decide)) (And.intro (fun c => absurd (Int.le_trans ww (Int.le_of_eq c)) (by decide)) (And.intro (fun c => absurd (Int.le_trans ww (Int.le_of_eq c)) (by decide)) (And.intro (fun c => absurd (Int.le_trans ww (Int.le_of_eq c)) (by decide)) (And.intro (fun c => absurd (Int.le_trans ww (Int.le_of_eq c)) (by decide)) (And.intro (fun c => absurd (Int.le_trans ww (Int.le_of_eq c)) (by decide)) trivial))))))) (fun _ => ?_)
    refine And.intro ?_ ⟨Or.inr rfl, Nat.le_refl _, Nat.le_refl _⟩
    exact ⟨f, g, rfl, rfl, x_LE_of (x_LC_0 hC) (by decide) (by decide) h2 h5 h6⟩
  rcases hli0 with ⟨hx | hx | hx, h1, hi, h3, h4⟩ | ⟨hx | hx, h1, hi, h3, h4⟩ | ⟨hx, h3, h4⟩ | (hx | hx) | ⟨hx | ⟨hx, h1⟩ | ⟨hx, h1⟩, h3, h4⟩ | ⟨hx, h3, h4⟩ | hx
  · have hop : s 0 k = 11 := hx
    have ww : (f 33 k).toInt = 11 := by rw [w1, hop]; rfl
    obtain ⟨wp, wi⟩ := w2 (by omega)
    have wp : f 34 k = nI (s 1 k) := wp
    have wi : f 35 k = nI (s 2 k) := wi
    have wm : f 36 k = nI (s 3 k) := w4 (by omega) (by omega) (by omega)
    have ea : y_ac s v ch k = s_pay v (s 1 k) (s 2 k) (s 3 k) := by unfold y_ac; rw [hop]; rfl
    rw [wp, wi, wm, ea, y_cc_d (by omega), y_mo_d (by omega), y_bo_d (by omega) (by omega), Nat.add_zero, Nat.add_zero]
    refine x_wp_ok ok49 [] 6 ?_
    refine And.intro (x_ix_nI (by omega) (by omega)) ?_
    rw [nI_clamp (by omega)]
    refine And.intro (And.intro (fun _ => ?_) (And.intro (fun c => absurd (ww.symm.trans c) (by decide)) (And.intro (fun c => absurd (ww.symm.trans c) (by decide)) (And.intro (fun c => absurd (ww.symm.trans c) (by decide)) (And.intro (fun c => absurd (ww.symm.trans c) (by decide)) (And.intro (fun c => absurd (ww.symm.trans c) (by decide)) (And.intro (fun c => absurd (ww.symm.trans c) (by decide)) trivial))))))) (fun c => absurd c (by rw [ww]; decide))
    refine Exists.intro _ (And.intro (c_printFor_22 (d := d + 2) hC hB h1 hi (by omega)) (And.intro (And.intro (Nat.zero_le _) (Nat.zero_le _)) (fun q h' hpo => ?_)))
    obtain ⟨F, G, rfl, rfl, hF⟩ := x_PO_of hC hpo
    have hz : ∀ z, s_pay v (s 1 k) (s 2 k) (s 3 k) = some z → ¬ z.1 = -1 := by
      intro z hz
      unfold s_pay at hz
      split at hz
      · cases hz
      · cases hz
        exact x_nIm (by omega)
    refine And.intro (fun c => ?_) (fun c => ?_)
    · have c : x_oW (-1) (s_pay v (s 1 k) (s 2 k) (s 3 k)) = -1 := c
      have c := (x_oW_m1 hz).mp c
      rw [x_oB_of.1 c]
      refine And.intro ?_ ⟨Or.inl rfl, Nat.le_refl _, Nat.le_refl _⟩
      exact ⟨F, G, rfl, rfl, x_LE_of hF (by decide) (by decide) h2 h5 h6⟩
    · have c : ¬ x_oW (-1) (s_pay v (s 1 k) (s 2 k) (s 3 k)) = -1 := c
      have c := fun q => c ((x_oW_m1 hz).mpr q)
      rw [x_oB_of.2 c]
      refine And.intro ?_ ⟨Or.inr rfl, Nat.le_refl _, Nat.le_refl _⟩
      exact ⟨F, G, rfl, rfl, x_LE_of hF (by decide) (by decide) h2 h5 h6⟩
  · have hop : s 0 k = 14 := hx
    have ww : (f 33 k).toInt = 14 := by rw [w1, hop]; rfl
    obtain ⟨wp, wi⟩ := w2 (by omega)
    have wp : f 34 k = nI (s 1 k) := wp
    have wi : f 35 k = nI (s 2 k) := wi
    have wm : f 36 k = nI (s 3 k) := w4 (by omega) (by omega) (by omega)
    have ea : y_ac s v ch k = s_tear v (s 1 k) (s 2 k) (s 3 k) := by unfold y_ac; rw [hop]; rfl
    rw [wp, wi, wm, ea, y_cc_d (by omega), y_mo_d (by omega), y_bo_d (by omega) (by omega), Nat.add_zero, Nat.add_zero]
    refine x_wp_ok ok49 [] 6 ?_
    refine And.intro (x_ix_nI (by omega) (by omega)) ?_
    rw [nI_clamp (by omega)]
    refine And.intro (And.intro (fun c => absurd (ww.symm.trans c) (by decide)) (And.intro (fun c => absurd (ww.symm.trans c) (by decide)) (And.intro (fun c => absurd (ww.symm.trans c) (by decide)) (And.intro (fun _ => ?_) (And.intro (fun c => absurd (ww.symm.trans c) (by decide)) (And.intro (fun c => absurd (ww.symm.trans c) (by decide)) (And.intro (fun c => absurd (ww.symm.trans c) (by decide)) trivial))))))) (fun c => absurd c (by rw [ww]; decide))
    refine Exists.intro _ (And.intro (c_tearUp_22 (d := d + 2) hC hB h1 hi (by omega)) (And.intro (And.intro (Nat.zero_le _) (Nat.zero_le _)) (fun q h' hpo => ?_)))
    obtain ⟨F, G, rfl, rfl, hF⟩ := x_PO_of hC hpo
    have hz : ∀ z, s_tear v (s 1 k) (s 2 k) (s 3 k) = some z → ¬ z.1 = -1 := by
      intro z hz
      unfold s_tear at hz
      split at hz
      · cases hz
      · cases hz
        exact x_nIm (by omega)
    refine And.intro (fun c => ?_) (fun c => ?_)
    · have c : x_oW (-1) (s_tear v (s 1 k) (s 2 k) (s 3 k)) = -1 := c
      have c := (x_oW_m1 hz).mp c
      rw [x_oB_of.1 c]
      refine And.intro ?_ ⟨Or.inl rfl, Nat.le_refl _, Nat.le_refl _⟩
      exact ⟨F, G, rfl, rfl, x_LE_of hF (by decide) (by decide) h2 h5 h6⟩
    · have c : ¬ x_oW (-1) (s_tear v (s 1 k) (s 2 k) (s 3 k)) = -1 := c
      have c := fun q => c ((x_oW_m1 hz).mpr q)
      rw [x_oB_of.2 c]
      refine And.intro ?_ ⟨Or.inr rfl, Nat.le_refl _, Nat.le_refl _⟩
      exact ⟨F, G, rfl, rfl, x_LE_of hF (by decide) (by decide) h2 h5 h6⟩
  · have hop : s 0 k = 15 := hx
    have ww : (f 33 k).toInt = 15 := by rw [w1, hop]; rfl
    obtain ⟨wp, wi⟩ := w2 (by omega)
    have wp : f 34 k = nI (s 1 k) := wp
    have wi : f 35 k = nI (s 2 k) := wi
    have wm : f 36 k = nI (s 3 k) := w4 (by omega) (by omega) (by omega)
    have ea : y_ac s v ch k = s_mend v (s 1 k) (s 2 k) (s 3 k) := by unfold y_ac; rw [hop]; rfl
    rw [wp, wi, wm, ea, y_cc_d (by omega), y_mo_d (by omega), y_bo_d (by omega) (by omega), Nat.add_zero, Nat.add_zero]
    refine x_wp_ok ok49 [] 6 ?_
    refine And.intro (x_ix_nI (by omega) (by omega)) ?_
    rw [nI_clamp (by omega)]
    refine And.intro (And.intro (fun c => absurd (ww.symm.trans c) (by decide)) (And.intro (fun c => absurd (ww.symm.trans c) (by decide)) (And.intro (fun c => absurd (ww.symm.trans c) (by decide)) (And.intro (fun c => absurd (ww.symm.trans c) (by decide)) (And.intro (fun _ => ?_) (And.intro (fun c => absurd (ww.symm.trans c) (by decide)) (And.intro (fun c => absurd (ww.symm.trans c) (by decide)) trivial))))))) (fun c => absurd c (by rw [ww]; decide))
    refine Exists.intro _ (And.intro (c_mendTorn_22 (d := d + 2) hC hB h1 hi (by omega)) (And.intro (And.intro (Nat.zero_le _) (Nat.zero_le _)) (fun q h' hpo => ?_)))
    obtain ⟨F, G, rfl, rfl, hF⟩ := x_PO_of hC hpo
    have hz : ∀ z, s_mend v (s 1 k) (s 2 k) (s 3 k) = some z → ¬ z.1 = -1 := by
      intro z hz
      unfold s_mend at hz
      split at hz
      · cases hz
      · cases hz
        have : d_back v (s 1 k) (s 2 k) (s 3 k) ≤ 9999 - v 13 (s 1 k) (s 2 k) := Nat.min_le_right _ _
        exact x_nIm (by omega)
    refine And.intro (fun c => ?_) (fun c => ?_)
    · have c : x_oW (-1) (s_mend v (s 1 k) (s 2 k) (s 3 k)) = -1 := c
      have c := (x_oW_m1 hz).mp c
      rw [x_oB_of.1 c]
      refine And.intro ?_ ⟨Or.inl rfl, Nat.le_refl _, Nat.le_refl _⟩
      exact ⟨F, G, rfl, rfl, x_LE_of hF (by decide) (by decide) h2 h5 h6⟩
    · have c : ¬ x_oW (-1) (s_mend v (s 1 k) (s 2 k) (s 3 k)) = -1 := c
      have c := fun q => c ((x_oW_m1 hz).mpr q)
      rw [x_oB_of.2 c]
      refine And.intro ?_ ⟨Or.inr rfl, Nat.le_refl _, Nat.le_refl _⟩
      exact ⟨F, G, rfl, rfl, x_LE_of hF (by decide) (by decide) h2 h5 h6⟩
  · have ww : (f 33 k).toInt = 12 := by rw [w1, hx]; rfl
    obtain ⟨wp, wi⟩ := w2 (by omega)
    have wp : f 34 k = nI (s 1 k) := wp
    have wi : f 35 k = nI (s 2 k) := wi
    have wm : f 36 k = nI (s 3 k) := w4 (by omega) (by omega) (by omega)
    have ea : y_ac s v ch k = s_buy v (s 1 k) (s 2 k) (s 3 k) := by unfold y_ac; rw [hx]; rfl
    have eb : y_bo s v ch k = y_is (s_buy v (s 1 k) (s 2 k) (s 3 k)) (s 3 k) 0 := by
      unfold y_bo
      rw [if_pos hx, ea]
    rw [wp, wi, wm, ea, y_cc_d (by omega), y_mo_d (by omega), eb, Nat.add_zero]
    refine x_wp_ok ok49 [216] 6 ?_
    refine And.intro (x_ix_nI (by omega) (by omega)) ?_
    rw [nI_clamp (by omega)]
    refine And.intro (And.intro (fun c => absurd (ww.symm.trans c) (by decide)) (And.intro (fun _ => ?_) (And.intro (fun c => absurd (ww.symm.trans c) (by decide)) (And.intro (fun c => absurd (ww.symm.trans c) (by decide)) (And.intro (fun c => absurd (ww.symm.trans c) (by decide)) (And.intro (fun c => absurd (ww.symm.trans c) (by decide)) (And.intro (fun c => absurd (ww.symm.trans c) (by decide)) trivial))))))) (fun c => absurd c (by rw [ww]; decide))
    exact c_buyStep_22_32_102 hC hBn hN (fun _ _ => rfl) h2 h5 h6 (fun _ _ _ _ => rfl) h1 hi h3 (by omega)
  · have hop : s 0 k = 13 := hx
    have ww : (f 33 k).toInt = 13 := by rw [w1, hop]; rfl
    obtain ⟨wp, wi⟩ := w2 (by omega)
    have wp : f 34 k = nI (s 1 k) := wp
    have wi : f 35 k = nI (s 2 k) := wi
    have wm : f 36 k = nI (s 3 k) := w4 (by omega) (by omega) (by omega)
    have ea : y_ac s v ch k = s_sell v (s 1 k) (s 2 k) (s 3 k) := by unfold y_ac; rw [hop]; rfl
    rw [wp, wi, wm, ea, y_cc_d (by omega), y_mo_d (by omega), y_bo_d (by omega) (by omega), Nat.add_zero, Nat.add_zero]
    refine x_wp_ok ok49 [] 6 ?_
    refine And.intro (x_ix_nI (by omega) (by omega)) ?_
    rw [nI_clamp (by omega)]
    refine And.intro (And.intro (fun c => absurd (ww.symm.trans c) (by decide)) (And.intro (fun c => absurd (ww.symm.trans c) (by decide)) (And.intro (fun _ => ?_) (And.intro (fun c => absurd (ww.symm.trans c) (by decide)) (And.intro (fun c => absurd (ww.symm.trans c) (by decide)) (And.intro (fun c => absurd (ww.symm.trans c) (by decide)) (And.intro (fun c => absurd (ww.symm.trans c) (by decide)) trivial))))))) (fun c => absurd c (by rw [ww]; decide))
    refine Exists.intro _ (And.intro (c_takeGoods_22 (d := d) hC hBn (by omega) h1 hi h3 (by omega)) (And.intro (And.intro (Nat.zero_le _) (Nat.zero_le _)) (fun q h' hpo => ?_)))
    obtain ⟨F, G, rfl, rfl, hF⟩ := hpo
    have hz : ∀ z, s_sell v (s 1 k) (s 2 k) (s 3 k) = some z → ¬ z.1 = -1 := by
      intro z hz
      unfold s_sell at hz
      split at hz
      · rename_i hcs
        have := (v_cs_at hcs).2.2.2.1
        cases hz
        exact x_nIm (by omega)
      · cases hz
    refine And.intro (fun c => ?_) (fun c => ?_)
    · have c : x_oW (-1) (s_sell v (s 1 k) (s 2 k) (s 3 k)) = -1 := c
      have c := (x_oW_m1 hz).mp c
      rw [x_oB_of.1 c]
      refine And.intro ?_ ⟨Or.inl rfl, Nat.le_refl _, Nat.le_refl _⟩
      exact ⟨F, G, rfl, rfl, x_LE_of hF (by decide) (by decide) h2 h5 h6⟩
    · have c : ¬ x_oW (-1) (s_sell v (s 1 k) (s 2 k) (s 3 k)) = -1 := c
      have c := fun q => c ((x_oW_m1 hz).mpr q)
      rw [x_oB_of.2 c]
      refine And.intro ?_ ⟨Or.inr rfl, Nat.le_refl _, Nat.le_refl _⟩
      exact ⟨F, G, rfl, rfl, x_LE_of hF (by decide) (by decide) h2 h5 h6⟩
  · have ww : (f 33 k).toInt = 16 := by rw [w1, hx]; rfl
    have wm : f 36 k = nI (s 3 k) := w4 (by omega) (by omega) (by omega)
    have ea : y_ac s v ch k = s_mn v (s 3 k) := by unfold y_ac; rw [hx]; rfl
    have eb : y_mo s v ch k = y_is (s_mn v (s 3 k)) (s 3 k) 0 := by
      unfold y_mo
      rw [if_pos hx, ea]
    rw [wm, ea, y_cc_d (by omega), eb, y_bo_d (by omega) (by omega), Nat.add_zero]
    refine x_wp_ok ok49 [] 6 ?_
    refine And.intro (x_ix_nI (by omega) (by omega)) ?_
    rw [nI_clamp (by omega)]
    refine And.intro (And.intro (fun c => absurd (ww.symm.trans c) (by decide)) (And.intro (fun c => absurd (ww.symm.trans c) (by decide)) (And.intro (fun c => absurd (ww.symm.trans c) (by decide)) (And.intro (fun c => absurd (ww.symm.trans c) (by decide)) (And.intro (fun c => absurd (ww.symm.trans c) (by decide)) (And.intro (fun _ => ?_) (And.intro (fun c => absurd (ww.symm.trans c) (by decide)) trivial))))))) (fun c => absurd c (by rw [ww]; decide))
    have cl := c_passMonths_22 (d := d) (r := r) (t := t) (dm := dm) (n := n) (m := s 3 k) hC hBn hN (by omega)
    unfold s_mn
    by_cases hc : 9999 < v 6 0 0 + s 3 k
    · rw [if_pos hc] at cl
      rw [if_pos hc]
      refine Exists.intro _ (And.intro cl (And.intro (And.intro (Nat.zero_le _) (Nat.zero_le _)) (fun q h' hpo => ?_)))
      obtain ⟨rfl, rfl⟩ := hpo
      refine Exists.intro _ (And.intro (c_isPassed_102 (d := d + 3) (b := false) h5) (And.intro (And.intro (Nat.zero_le _) (Nat.zero_le _)) (fun q h' hpo => ?_)))
      obtain ⟨rfl, rfl⟩ := hpo
      refine And.intro ?_ ⟨Or.inl rfl, Nat.le_refl _, Nat.le_refl _⟩
      refine ⟨_, g, rfl, rfl, v_C_fr hC (fun k _ _ => x_un (by omega)) rfl, rfl, fun k a b c => x_un c, fun k a b => rfl, ?_, ?_, ?_, fun j a b c => ?_⟩
      · unfold x_up
        rw [x_us, x_un (by decide)]
        exact h2
      · unfold x_up
        rw [x_us, x_us]
        rfl
      · unfold x_up
        rw [x_us, x_un (by decide)]
        exact h6
      · unfold x_up
        rw [x_us, x_un b]
    · rw [if_neg hc] at cl
      rw [if_neg hc]
      refine Exists.intro _ (And.intro cl (And.intro (And.intro (Nat.zero_le _) (Nat.zero_le _)) (fun q h' hpo => ?_)))
      obtain ⟨F, G, rfl, rfl, hF⟩ := hpo
      have e2 : F 102 = f 102 := (hF.2.2 102 (by decide) (by decide)).1
      refine Exists.intro _ (And.intro (c_isPassed_102 (d := d + 3) (b := true) (f := F) (mo := mo) (by rw [e2]; exact h5)) (And.intro (And.intro (Nat.zero_le _) (Nat.zero_le _)) (fun q h' hpo => ?_)))
      obtain ⟨rfl, rfl⟩ := hpo
      refine And.intro ?_ ⟨Or.inr rfl, Nat.le_refl _, Nat.le_refl _⟩
      refine ⟨_, G, rfl, rfl, v_C_fr hF.1 (fun k _ _ => x_un (by omega)) rfl, hF.2.1, fun k a b c => (x_un c).trans (hF.2.2 k a b).1, fun k a b => (hF.2.2 k a b).2, ?_, ?_, ?_, fun j a b c => ?_⟩
      · unfold x_up
        rw [x_us, x_un (by decide), e2]
        exact h2
      · unfold x_up
        rw [x_us, x_us]
        rfl
      · unfold x_up
        rw [x_us, x_un (by decide), e2]
        exact h6
      · unfold x_up
        rw [x_us, x_un b, e2]
  · have ww : (f 33 k).toInt = 17 := by rw [w1, hx]; rfl
    have o1q : v_ok v 1 0 0 := ⟨rfl, rfl⟩
    have h1q : f 22 1 = nI (v 1 0 0) := hC.1 1 0 0 o1q
    have b1q : v 1 0 0 ≤ 5 := (hB.1 1 0 0 o1q).2
    have o2q : v_ok v 2 0 0 := ⟨rfl, rfl⟩
    have h2q : f 22 2 = nI (v 2 0 0) := hC.1 2 0 0 o2q
    have b2q : v 2 0 0 ≤ 5 := (hB.1 2 0 0 o2q).2
    have ea : y_ac s v ch k = (if v 2 0 0 = 0 ∨ v 1 0 0 = 0 then none else s_buy v (y_dr ch / 8 % v 2 0 0) (y_dr (y_dr ch) / 8 % v 1 0 0) 1) := by unfold y_ac; rw [hx]; rfl
    have eb : y_bo s v ch k = y_is (y_ac s v ch k) 1 0 := by
      unfold y_bo
      rw [if_neg (by omega), if_pos hx]
    by_cases hz : v 2 0 0 = 0 ∨ v 1 0 0 = 0
    · have ec : y_cc s v ch k = ch := if_neg (fun q => q.2 hz)
      rw [if_pos hz] at ea
      rw [eb, ea, ec, y_mo_d (by omega), Nat.add_zero]
      refine x_wp_ok ok49 [216] 6 ?_
      refine And.intro (x_ix_nI (by omega) (by omega)) ?_
      rw [nI_clamp (by omega)]
      refine And.intro (And.intro (fun c => absurd (ww.symm.trans c) (by decide)) (And.intro (fun c => absurd (ww.symm.trans c) (by decide)) (And.intro (fun c => absurd (ww.symm.trans c) (by decide)) (And.intro (fun c => absurd (ww.symm.trans c) (by decide)) (And.intro (fun c => absurd (ww.symm.trans c) (by decide)) (And.intro (fun c => absurd (ww.symm.trans c) (by decide)) (And.intro (fun _ => ?_) trivial))))))) (fun c => absurd c (by rw [ww]; decide))
      refine And.intro (fun c => ?_) (fun c => ?_)
      · refine And.intro ?_ ⟨Or.inl rfl, Nat.le_refl _, Nat.le_refl _⟩
        exact ⟨f, g, rfl, rfl, x_LE_of (x_LC_0 hC) (by decide) (by decide) h2 h5 h6⟩
      · have c : ¬ f 22 2 = nI 0 := c
        rw [h2q, nI_eq (by omega) (by decide)] at c
        refine And.intro (fun c2 => ?_) (fun c2 => ?_)
        · have c2 : ¬ f 22 1 = nI 0 := c2
          rw [h1q, nI_eq (by omega) (by decide)] at c2
          omega
        · refine And.intro ?_ ⟨Or.inl rfl, Nat.le_refl _, Nat.le_refl _⟩
          exact ⟨f, g, rfl, rfl, x_LE_of (x_LC_0 hC) (by decide) (by decide) h2 h5 h6⟩
    · have ec : y_cc s v ch k = y_dr (y_dr ch) := if_pos ⟨hx, hz⟩
      rw [if_neg hz] at ea
      rw [eb, ea, ec, y_mo_d (by omega), Nat.add_zero]
      refine x_wp_ok ok49 [216] 6 ?_
      refine And.intro (x_ix_nI (by omega) (by omega)) ?_
      rw [nI_clamp (by omega)]
      refine And.intro (And.intro (fun c => absurd (ww.symm.trans c) (by decide)) (And.intro (fun c => absurd (ww.symm.trans c) (by decide)) (And.intro (fun c => absurd (ww.symm.trans c) (by decide)) (And.intro (fun c => absurd (ww.symm.trans c) (by decide)) (And.intro (fun c => absurd (ww.symm.trans c) (by decide)) (And.intro (fun c => absurd (ww.symm.trans c) (by decide)) (And.intro (fun _ => ?_) trivial))))))) (fun c => absurd c (by rw [ww]; decide))
      refine And.intro (fun c => ?_) (fun c => ?_)
      · have c : f 22 2 = nI 0 := c
        rw [h2q, nI_eq (by omega) (by decide)] at c
        omega
      · refine And.intro (fun c2 => ?_) (fun c2 => ?_)
        · have hd : y_dr ch < 65536 := Nat.mod_lt _ (by decide)
          have c1 := c_draw_102 (d := d + 2) (g := g) (r := r) (t := t) (dm := dm) (n := n) (m := v 2 0 0) h2 hch (by omega) (by omega)
          rw [← h2q] at c1
          refine Exists.intro _ (And.intro c1 (And.intro (And.intro (Nat.zero_le _) (Nat.zero_le _)) (fun q h' hpo => ?_)))
          obtain ⟨rfl, rfl⟩ := hpo
          have c3 := c_draw_102 (d := d + 2) (f := x_up f 102 2 (nI (y_dr ch))) (ch := y_dr ch) (g := g) (r := r) (t := t) (dm := dm) (n := n) (m := v 1 0 0) (by unfold x_up; rw [x_us, x_us]) hd (by omega) (by omega)
          rw [← h1q, ← (show x_up f 102 2 (nI (y_dr ch)) 22 1 = f 22 1 from rfl)] at c3
          refine Exists.intro _ (And.intro c3 (And.intro (And.intro (Nat.zero_le _) (Nat.zero_le _)) (fun q h' hpo => ?_)))
          obtain ⟨rfl, rfl⟩ := hpo
          refine c_buyStep_22_32_102 hC hBn hN (fun c hc => (x_un hc).trans (x_un hc)) ?_ ?_ ?_ (fun j a b c => ?_) (Nat.mod_lt _ (by omega)) (Nat.mod_lt _ (by omega)) (Nat.le_refl 1) (by decide)
          · unfold x_up
            rw [x_us, x_us]
          · unfold x_up
            rw [x_us, x_un (by decide), x_us, x_un (by decide)]
            exact h5
          · unfold x_up
            rw [x_us, x_un (by decide), x_us, x_un (by decide)]
            exact h6
          · unfold x_up
            rw [x_us, x_un a, x_us, x_un a]
        · have c2 : f 22 1 = nI 0 := c2
          rw [h1q, nI_eq (by omega) (by decide)] at c2
          omega
  · exact dflt (by omega) (by omega)
  · exact dflt (by omega) (by omega)
  · exact dflt (by omega) (by omega)
  · exact dflt (by omega) (by omega)
  · exact dflt (by omega) (by omega)
  · exact absurd hx he
theorem c_buyStep_12_32_104 {k p i m ch mo bo : Nat} {F : Nat → Nat → Int32} (hC : v_C f g 12 v) (hBn : v_Bn N v) (hN : N + 998001 < 2 ^ 60) (hF : ∀ c, c ≠ 104 → F c = f c) (h2 : F 104 2 = nI ch) (h5 : F 104 5 = nI mo) (h6 : F 104 6 = nI bo) (hj : ∀ j, j ≠ 2 → j ≠ 5 → j ≠ 6 → F 104 j = f 104 j) (hp : p < v 2 0 0) (hi : i < v 1 0 0) (hm1 : 1 ≤ m) (hm : m ≤ 999) : x_J 49 (d + 4) (x_PI f g 12 104 (x_HR r t) dm n (x_oB (s_buy v p i m)) (x_oV v (s_buy v p i m)) ch mo (bo + y_is (s_buy v p i m) m 0)) 216 [some (.ref 104), some (.ref 12), some (.ref 32), some (.int (nI k)), some (.int (nI p)), some (.int (nI i)), some (.int (nI m)), none, none] [] (F, g, x_HR r t, dm, n) 0 0 := by
  have hB := v_Bn_B hBn (by omega)
  have hC1 : v_C F g 12 v := v_C_fr hC (fun k _ _ => hF k (by omega)) rfl
  refine x_wp_ok ok49 [] 6 ?_
  refine Exists.intro _ (And.intro (c_wayToBuy_12 (d := d) hC1 hB hp hi hm) (And.intro (And.intro (Nat.zero_le _) (Nat.zero_le _)) (fun q h' hpo => ?_)))
  obtain ⟨rfl, G, rfl, hG⟩ := hpo
  have hL := x_LC_G (L := 12) (by decide) hG hC1
  refine Exists.intro _ (And.intro (c_purchase_12 (d := d) hL.1 hBn (by omega) hp hi hm1 hm) (And.intro (And.intro (Nat.zero_le _) (Nat.zero_le _)) (fun q h' hpo => ?_)))
  obtain ⟨F2, G2, rfl, rfl, hF2⟩ := hpo
  have hLC := x_LC_tr hL hF2
  have e2 : F2 104 = F 104 := (hLC.2.2 104 (by decide) (by decide)).1
  have hz : ∀ z, s_buy v p i m = some z → ¬ z.1 = -1 := by
    intro z hz
    unfold s_buy at hz
    split at hz
    · rename_i hcb
      have := (v_cb_at hcb).2.2.2
      cases hz
      exact x_nIm (by omega)
    · cases hz
  refine And.intro (fun c => ?_) (fun c => ?_)
  · have c : ¬ x_oW (-1) (s_buy v p i m) = -1 := c
    have c := fun q => c ((x_oW_m1 hz).mpr q)
    rw [x_oB_of.2 c]
    have e6 : F2 104 6 + nI m = nI (bo + m) := by rw [e2, h6, nI_add]
    have ei : y_is (s_buy v p i m) m 0 = m := by
      cases ho : s_buy v p i m with
      | none => exact absurd ho c
      | some z => rfl
    rw [ei]
    refine And.intro ?_ ⟨Or.inr rfl, Nat.le_refl _, Nat.le_refl _⟩
    refine ⟨_, G2, rfl, rfl, v_C_fr hLC.1 (fun k _ _ => x_un (by omega)) rfl, hLC.2.1, fun k a b c => (x_un c).trans ((hLC.2.2 k a b).1.trans (hF k c)), fun k a b => (hLC.2.2 k a b).2, ?_, ?_, ?_, fun j a b c => ?_⟩
    · unfold x_up
      rw [x_us, x_un (by decide), e2]
      exact h2
    · unfold x_up
      rw [x_us, x_un (by decide), e2]
      exact h5
    · unfold x_up
      rw [x_us, x_us]
      exact e6
    · unfold x_up
      rw [x_us, x_un c, e2]
      exact hj j a b c
  · have c : x_oW (-1) (s_buy v p i m) = -1 := c
    have c := (x_oW_m1 hz).mp c
    rw [x_oB_of.1 c]
    refine And.intro ?_ ⟨Or.inl rfl, Nat.le_refl _, Nat.le_refl _⟩
    have ei : y_is (s_buy v p i m) m 0 = 0 := by rw [c]; rfl
    rw [ei]
    exact ⟨F2, G2, rfl, rfl, hLC.1, hLC.2.1, fun k a b c => ((hLC.2.2 k a b).1.trans (hF k c)), fun k a b => (hLC.2.2 k a b).2, by rw [e2]; exact h2, by rw [e2]; exact h5, by rw [e2]; exact h6, fun j a b c => by rw [e2]; exact hj j a b c⟩
theorem c_isDone_12_32_104 {k ch mo bo : Nat} (hC : v_C f g 12 v) (hBn : v_Bn N v) (hN : N + 998001 < 2 ^ 60) (hSC : x_SC f 32 s NL) (hNL : NL ≤ 60) (hk : k < NL) (hli : y_li s (v 2 0 0) (v 0 0 0) (v 1 0 0) k) (he : s 0 k ≠ 23) (hch : ch < 65536) (h2 : f 104 2 = nI ch) (h5 : f 104 5 = nI mo) (h6 : f 104 6 = nI bo) : x_Ct 49 (d + 4) [.ref 104, .ref 12, .ref 32, .int (nI k)] (f, g, x_HR r t, dm, n) (x_PI f g 12 104 (x_HR r t) dm n (x_oB (y_ac s v ch k)) (x_oV v (y_ac s v ch k)) (y_cc s v ch k) (mo + y_mo s v ch k) (bo + y_bo s v ch k)) := by
  have hB := v_Bn_B hBn (by omega)
  have bK := v_B_K hB
  have bG := v_B_G hB
  have bP := v_B_P hB
  have h24 := y_li_24 hli
  have hw24 := y_wd_24 h24.2
  obtain ⟨w1, w2, w3, w4, w5⟩ := hSC.2 k hk
  have w1 : f 33 k = nI (y_wd (s 0 k)) := w1
  refine x_Ct_w (by decide) (Nat.le_of_ble_eq_true rfl) ok49 [24] 6 ?_
  refine And.intro (x_ix_nI (by omega) (by omega)) ?_
  rw [nI_clamp (by omega)]
  refine And.intro (x_ix_nI (by omega) (by omega)) ?_
  rw [nI_clamp (by omega)]
  refine And.intro (x_ix_nI (by omega) (by omega)) ?_
  rw [nI_clamp (by omega)]
  show x_J 49 (d + 4) (x_PI f g 12 104 (x_HR r t) dm n (x_oB (y_ac s v ch k)) (x_oV v (y_ac s v ch k)) (y_cc s v ch k) (mo + y_mo s v ch k) (bo + y_bo s v ch k)) 24 [some (.ref 104), some (.ref 12), some (.ref 32), some (.int (nI k)), some (.int (f 34 k)), some (.int (f 35 k)), some (.int (f 36 k)), none, none] [] (f, g, x_HR r t, dm, n) 0 0
  have hli0 := hli
  unfold y_li at hli0
  have dflt : 18 ≤ s 0 k → s 0 k ≤ 24 → x_J 49 (d + 4) (x_PI f g 12 104 (x_HR r t) dm n (x_oB (y_ac s v ch k)) (x_oV v (y_ac s v ch k)) (y_cc s v ch k) (mo + y_mo s v ch k) (bo + y_bo s v ch k)) 24 [some (.ref 104), some (.ref 12), some (.ref 32), some (.int (nI k)), some (.int (f 34 k)), some (.int (f 35 k)), some (.int (f 36 k)), none, none] [] (f, g, x_HR r t, dm, n) 0 0 := by
    intro q1 q2
    have ww : 18 ≤ (f 33 k).toInt := by
      rw [w1, nI_toInt (by omega)]
      unfold y_wd
      split <;> omega
    rw [y_ac_d q1, y_cc_d (by omega), y_mo_d (by omega), y_bo_d (by omega) (by omega), Nat.add_zero, Nat.add_zero]
    refine x_wp_ok ok49 [] 6 ?_
    refine And.intro (x_ix_nI (by omega) (by omega)) ?_
    rw [nI_clamp (by omega)]
    refine And.intro (And.intro (fun c => absurd (Int.le_trans ww (Int.le_of_eq c)) (by decide)) (And.intro (fun c => absurd (Int.le_trans ww (Int.le_of_eq c)) (by decide)) (And.intro (fun c => absurd (Int.le_trans ww (Int.le_of_eq c)) (by decide)) (And.intro (fun c => absurd (Int.le_trans ww (Int.le_of_eq c)) (by decide)) (And.intro (fun c => absurd (Int.le_trans ww (Int.le_of_eq c)) (by decide)) (And.intro (fun c => absurd (Int.le_trans ww (Int.le_of_eq c)) (by decide)) (And.intro (fun c => absurd (Int.le_trans ww (Int.le_of_eq c)) (by decide)) trivial))))))) (fun _ => ?_)
    refine And.intro ?_ ⟨Or.inr rfl, Nat.le_refl _, Nat.le_refl _⟩
    exact ⟨f, g, rfl, rfl, x_LE_of (x_LC_0 hC) (by decide) (by decide) h2 h5 h6⟩
  rcases hli0 with ⟨hx | hx | hx, h1, hi, h3, h4⟩ | ⟨hx | hx, h1, hi, h3, h4⟩ | ⟨hx, h3, h4⟩ | (hx | hx) | ⟨hx | ⟨hx, h1⟩ | ⟨hx, h1⟩, h3, h4⟩ | ⟨hx, h3, h4⟩ | hx
  · have hop : s 0 k = 11 := hx
    have ww : (f 33 k).toInt = 11 := by rw [w1, hop]; rfl
    obtain ⟨wp, wi⟩ := w2 (by omega)
    have wp : f 34 k = nI (s 1 k) := wp
    have wi : f 35 k = nI (s 2 k) := wi
    have wm : f 36 k = nI (s 3 k) := w4 (by omega) (by omega) (by omega)
    have ea : y_ac s v ch k = s_pay v (s 1 k) (s 2 k) (s 3 k) := by unfold y_ac; rw [hop]; rfl
    rw [wp, wi, wm, ea, y_cc_d (by omega), y_mo_d (by omega), y_bo_d (by omega) (by omega), Nat.add_zero, Nat.add_zero]
    refine x_wp_ok ok49 [] 6 ?_
    refine And.intro (x_ix_nI (by omega) (by omega)) ?_
    rw [nI_clamp (by omega)]
    refine And.intro (And.intro (fun _ => ?_) (And.intro (fun c => absurd (ww.symm.trans c) (by decide)) (And.intro (fun c => absurd (ww.symm.trans c) (by decide)) (And.intro (fun c => absurd (ww.symm.trans c) (by decide)) (And.intro (fun c => absurd (ww.symm.trans c) (by decide)) (And.intro (fun c => absurd (ww.symm.trans c) (by decide)) (And.intro (fun c => absurd (ww.symm.trans c) (by decide)) trivial))))))) (fun c => absurd c (by rw [ww]; decide))
    refine Exists.intro _ (And.intro (c_printFor_12 (d := d + 2) hC hB h1 hi (by omega)) (And.intro (And.intro (Nat.zero_le _) (Nat.zero_le _)) (fun q h' hpo => ?_)))
    obtain ⟨F, G, rfl, rfl, hF⟩ := x_PO_of hC hpo
    have hz : ∀ z, s_pay v (s 1 k) (s 2 k) (s 3 k) = some z → ¬ z.1 = -1 := by
      intro z hz
      unfold s_pay at hz
      split at hz
      · cases hz
      · cases hz
        exact x_nIm (by omega)
    refine And.intro (fun c => ?_) (fun c => ?_)
    · have c : x_oW (-1) (s_pay v (s 1 k) (s 2 k) (s 3 k)) = -1 := c
      have c := (x_oW_m1 hz).mp c
      rw [x_oB_of.1 c]
      refine And.intro ?_ ⟨Or.inl rfl, Nat.le_refl _, Nat.le_refl _⟩
      exact ⟨F, G, rfl, rfl, x_LE_of hF (by decide) (by decide) h2 h5 h6⟩
    · have c : ¬ x_oW (-1) (s_pay v (s 1 k) (s 2 k) (s 3 k)) = -1 := c
      have c := fun q => c ((x_oW_m1 hz).mpr q)
      rw [x_oB_of.2 c]
      refine And.intro ?_ ⟨Or.inr rfl, Nat.le_refl _, Nat.le_refl _⟩
      exact ⟨F, G, rfl, rfl, x_LE_of hF (by decide) (by decide) h2 h5 h6⟩
  · have hop : s 0 k = 14 := hx
    have ww : (f 33 k).toInt = 14 := by rw [w1, hop]; rfl
    obtain ⟨wp, wi⟩ := w2 (by omega)
    have wp : f 34 k = nI (s 1 k) := wp
    have wi : f 35 k = nI (s 2 k) := wi
    have wm : f 36 k = nI (s 3 k) := w4 (by omega) (by omega) (by omega)
    have ea : y_ac s v ch k = s_tear v (s 1 k) (s 2 k) (s 3 k) := by unfold y_ac; rw [hop]; rfl
    rw [wp, wi, wm, ea, y_cc_d (by omega), y_mo_d (by omega), y_bo_d (by omega) (by omega), Nat.add_zero, Nat.add_zero]
    refine x_wp_ok ok49 [] 6 ?_
    refine And.intro (x_ix_nI (by omega) (by omega)) ?_
    rw [nI_clamp (by omega)]
    refine And.intro (And.intro (fun c => absurd (ww.symm.trans c) (by decide)) (And.intro (fun c => absurd (ww.symm.trans c) (by decide)) (And.intro (fun c => absurd (ww.symm.trans c) (by decide)) (And.intro (fun _ => ?_) (And.intro (fun c => absurd (ww.symm.trans c) (by decide)) (And.intro (fun c => absurd (ww.symm.trans c) (by decide)) (And.intro (fun c => absurd (ww.symm.trans c) (by decide)) trivial))))))) (fun c => absurd c (by rw [ww]; decide))
    refine Exists.intro _ (And.intro (c_tearUp_12 (d := d + 2) hC hB h1 hi (by omega)) (And.intro (And.intro (Nat.zero_le _) (Nat.zero_le _)) (fun q h' hpo => ?_)))
    obtain ⟨F, G, rfl, rfl, hF⟩ := x_PO_of hC hpo
    have hz : ∀ z, s_tear v (s 1 k) (s 2 k) (s 3 k) = some z → ¬ z.1 = -1 := by
      intro z hz
      unfold s_tear at hz
      split at hz
      · cases hz
      · cases hz
        exact x_nIm (by omega)
    refine And.intro (fun c => ?_) (fun c => ?_)
    · have c : x_oW (-1) (s_tear v (s 1 k) (s 2 k) (s 3 k)) = -1 := c
      have c := (x_oW_m1 hz).mp c
      rw [x_oB_of.1 c]
      refine And.intro ?_ ⟨Or.inl rfl, Nat.le_refl _, Nat.le_refl _⟩
      exact ⟨F, G, rfl, rfl, x_LE_of hF (by decide) (by decide) h2 h5 h6⟩
    · have c : ¬ x_oW (-1) (s_tear v (s 1 k) (s 2 k) (s 3 k)) = -1 := c
      have c := fun q => c ((x_oW_m1 hz).mpr q)
      rw [x_oB_of.2 c]
      refine And.intro ?_ ⟨Or.inr rfl, Nat.le_refl _, Nat.le_refl _⟩
      exact ⟨F, G, rfl, rfl, x_LE_of hF (by decide) (by decide) h2 h5 h6⟩
  · have hop : s 0 k = 15 := hx
    have ww : (f 33 k).toInt = 15 := by rw [w1, hop]; rfl
    obtain ⟨wp, wi⟩ := w2 (by omega)
    have wp : f 34 k = nI (s 1 k) := wp
    have wi : f 35 k = nI (s 2 k) := wi
    have wm : f 36 k = nI (s 3 k) := w4 (by omega) (by omega) (by omega)
    have ea : y_ac s v ch k = s_mend v (s 1 k) (s 2 k) (s 3 k) := by unfold y_ac; rw [hop]; rfl
    rw [wp, wi, wm, ea, y_cc_d (by omega), y_mo_d (by omega), y_bo_d (by omega) (by omega), Nat.add_zero, Nat.add_zero]
    refine x_wp_ok ok49 [] 6 ?_
    refine And.intro (x_ix_nI (by omega) (by omega)) ?_
    rw [nI_clamp (by omega)]
    refine And.intro (And.intro (fun c => absurd (ww.symm.trans c) (by decide)) (And.intro (fun c => absurd (ww.symm.trans c) (by decide)) (And.intro (fun c => absurd (ww.symm.trans c) (by decide)) (And.intro (fun c => absurd (ww.symm.trans c) (by decide)) (And.intro (fun _ => ?_) (And.intro (fun c => absurd (ww.symm.trans c) (by decide)) (And.intro (fun c => absurd (ww.symm.trans c) (by decide)) trivial))))))) (fun c => absurd c (by rw [ww]; decide))
    refine Exists.intro _ (And.intro (c_mendTorn_12 (d := d + 2) hC hB h1 hi (by omega)) (And.intro (And.intro (Nat.zero_le _) (Nat.zero_le _)) (fun q h' hpo => ?_)))
    obtain ⟨F, G, rfl, rfl, hF⟩ := x_PO_of hC hpo
    have hz : ∀ z, s_mend v (s 1 k) (s 2 k) (s 3 k) = some z → ¬ z.1 = -1 := by
      intro z hz
      unfold s_mend at hz
      split at hz
      · cases hz
      · cases hz
        have : d_back v (s 1 k) (s 2 k) (s 3 k) ≤ 9999 - v 13 (s 1 k) (s 2 k) := Nat.min_le_right _ _
        exact x_nIm (by omega)
    refine And.intro (fun c => ?_) (fun c => ?_)
    · have c : x_oW (-1) (s_mend v (s 1 k) (s 2 k) (s 3 k)) = -1 := c
      have c := (x_oW_m1 hz).mp c
      rw [x_oB_of.1 c]
      refine And.intro ?_ ⟨Or.inl rfl, Nat.le_refl _, Nat.le_refl _⟩
      exact ⟨F, G, rfl, rfl, x_LE_of hF (by decide) (by decide) h2 h5 h6⟩
    · have c : ¬ x_oW (-1) (s_mend v (s 1 k) (s 2 k) (s 3 k)) = -1 := c
      have c := fun q => c ((x_oW_m1 hz).mpr q)
      rw [x_oB_of.2 c]
      refine And.intro ?_ ⟨Or.inr rfl, Nat.le_refl _, Nat.le_refl _⟩
      exact ⟨F, G, rfl, rfl, x_LE_of hF (by decide) (by decide) h2 h5 h6⟩
  · have ww : (f 33 k).toInt = 12 := by rw [w1, hx]; rfl
    obtain ⟨wp, wi⟩ := w2 (by omega)
    have wp : f 34 k = nI (s 1 k) := wp
    have wi : f 35 k = nI (s 2 k) := wi
    have wm : f 36 k = nI (s 3 k) := w4 (by omega) (by omega) (by omega)
    have ea : y_ac s v ch k = s_buy v (s 1 k) (s 2 k) (s 3 k) := by unfold y_ac; rw [hx]; rfl
    have eb : y_bo s v ch k = y_is (s_buy v (s 1 k) (s 2 k) (s 3 k)) (s 3 k) 0 := by
      unfold y_bo
      rw [if_pos hx, ea]
    rw [wp, wi, wm, ea, y_cc_d (by omega), y_mo_d (by omega), eb, Nat.add_zero]
    refine x_wp_ok ok49 [216] 6 ?_
    refine And.intro (x_ix_nI (by omega) (by omega)) ?_
    rw [nI_clamp (by omega)]
    refine And.intro (And.intro (fun c => absurd (ww.symm.trans c) (by decide)) (And.intro (fun _ => ?_) (And.intro (fun c => absurd (ww.symm.trans c) (by decide)) (And.intro (fun c => absurd (ww.symm.trans c) (by decide)) (And.intro (fun c => absurd (ww.symm.trans c) (by decide)) (And.intro (fun c => absurd (ww.symm.trans c) (by decide)) (And.intro (fun c => absurd (ww.symm.trans c) (by decide)) trivial))))))) (fun c => absurd c (by rw [ww]; decide))
    exact c_buyStep_12_32_104 hC hBn hN (fun _ _ => rfl) h2 h5 h6 (fun _ _ _ _ => rfl) h1 hi h3 (by omega)
  · have hop : s 0 k = 13 := hx
    have ww : (f 33 k).toInt = 13 := by rw [w1, hop]; rfl
    obtain ⟨wp, wi⟩ := w2 (by omega)
    have wp : f 34 k = nI (s 1 k) := wp
    have wi : f 35 k = nI (s 2 k) := wi
    have wm : f 36 k = nI (s 3 k) := w4 (by omega) (by omega) (by omega)
    have ea : y_ac s v ch k = s_sell v (s 1 k) (s 2 k) (s 3 k) := by unfold y_ac; rw [hop]; rfl
    rw [wp, wi, wm, ea, y_cc_d (by omega), y_mo_d (by omega), y_bo_d (by omega) (by omega), Nat.add_zero, Nat.add_zero]
    refine x_wp_ok ok49 [] 6 ?_
    refine And.intro (x_ix_nI (by omega) (by omega)) ?_
    rw [nI_clamp (by omega)]
    refine And.intro (And.intro (fun c => absurd (ww.symm.trans c) (by decide)) (And.intro (fun c => absurd (ww.symm.trans c) (by decide)) (And.intro (fun _ => ?_) (And.intro (fun c => absurd (ww.symm.trans c) (by decide)) (And.intro (fun c => absurd (ww.symm.trans c) (by decide)) (And.intro (fun c => absurd (ww.symm.trans c) (by decide)) (And.intro (fun c => absurd (ww.symm.trans c) (by decide)) trivial))))))) (fun c => absurd c (by rw [ww]; decide))
    refine Exists.intro _ (And.intro (c_takeGoods_12 (d := d) hC hBn (by omega) h1 hi h3 (by omega)) (And.intro (And.intro (Nat.zero_le _) (Nat.zero_le _)) (fun q h' hpo => ?_)))
    obtain ⟨F, G, rfl, rfl, hF⟩ := hpo
    have hz : ∀ z, s_sell v (s 1 k) (s 2 k) (s 3 k) = some z → ¬ z.1 = -1 := by
      intro z hz
      unfold s_sell at hz
      split at hz
      · rename_i hcs
        have := (v_cs_at hcs).2.2.2.1
        cases hz
        exact x_nIm (by omega)
      · cases hz
    refine And.intro (fun c => ?_) (fun c => ?_)
    · have c : x_oW (-1) (s_sell v (s 1 k) (s 2 k) (s 3 k)) = -1 := c
      have c := (x_oW_m1 hz).mp c
      rw [x_oB_of.1 c]
      refine And.intro ?_ ⟨Or.inl rfl, Nat.le_refl _, Nat.le_refl _⟩
      exact ⟨F, G, rfl, rfl, x_LE_of hF (by decide) (by decide) h2 h5 h6⟩
    · have c : ¬ x_oW (-1) (s_sell v (s 1 k) (s 2 k) (s 3 k)) = -1 := c
      have c := fun q => c ((x_oW_m1 hz).mpr q)
      rw [x_oB_of.2 c]
      refine And.intro ?_ ⟨Or.inr rfl, Nat.le_refl _, Nat.le_refl _⟩
      exact ⟨F, G, rfl, rfl, x_LE_of hF (by decide) (by decide) h2 h5 h6⟩
  · have ww : (f 33 k).toInt = 16 := by rw [w1, hx]; rfl
    have wm : f 36 k = nI (s 3 k) := w4 (by omega) (by omega) (by omega)
    have ea : y_ac s v ch k = s_mn v (s 3 k) := by unfold y_ac; rw [hx]; rfl
    have eb : y_mo s v ch k = y_is (s_mn v (s 3 k)) (s 3 k) 0 := by
      unfold y_mo
      rw [if_pos hx, ea]
    rw [wm, ea, y_cc_d (by omega), eb, y_bo_d (by omega) (by omega), Nat.add_zero]
    refine x_wp_ok ok49 [] 6 ?_
    refine And.intro (x_ix_nI (by omega) (by omega)) ?_
    rw [nI_clamp (by omega)]
    refine And.intro (And.intro (fun c => absurd (ww.symm.trans c) (by decide)) (And.intro (fun c => absurd (ww.symm.trans c) (by decide)) (And.intro (fun c => absurd (ww.symm.trans c) (by decide)) (And.intro (fun c => absurd (ww.symm.trans c) (by decide)) (And.intro (fun c => absurd (ww.symm.trans c) (by decide)) (And.intro (fun _ => ?_) (And.intro (fun c => absurd (ww.symm.trans c) (by decide)) trivial))))))) (fun c => absurd c (by rw [ww]; decide))
    have cl := c_passMonths_12 (d := d) (r := r) (t := t) (dm := dm) (n := n) (m := s 3 k) hC hBn hN (by omega)
    unfold s_mn
    by_cases hc : 9999 < v 6 0 0 + s 3 k
    · rw [if_pos hc] at cl
      rw [if_pos hc]
      refine Exists.intro _ (And.intro cl (And.intro (And.intro (Nat.zero_le _) (Nat.zero_le _)) (fun q h' hpo => ?_)))
      obtain ⟨rfl, rfl⟩ := hpo
      refine Exists.intro _ (And.intro (c_isPassed_104 (d := d + 3) (b := false) h5) (And.intro (And.intro (Nat.zero_le _) (Nat.zero_le _)) (fun q h' hpo => ?_)))
      obtain ⟨rfl, rfl⟩ := hpo
      refine And.intro ?_ ⟨Or.inl rfl, Nat.le_refl _, Nat.le_refl _⟩
      refine ⟨_, g, rfl, rfl, v_C_fr hC (fun k _ _ => x_un (by omega)) rfl, rfl, fun k a b c => x_un c, fun k a b => rfl, ?_, ?_, ?_, fun j a b c => ?_⟩
      · unfold x_up
        rw [x_us, x_un (by decide)]
        exact h2
      · unfold x_up
        rw [x_us, x_us]
        rfl
      · unfold x_up
        rw [x_us, x_un (by decide)]
        exact h6
      · unfold x_up
        rw [x_us, x_un b]
    · rw [if_neg hc] at cl
      rw [if_neg hc]
      refine Exists.intro _ (And.intro cl (And.intro (And.intro (Nat.zero_le _) (Nat.zero_le _)) (fun q h' hpo => ?_)))
      obtain ⟨F, G, rfl, rfl, hF⟩ := hpo
      have e2 : F 104 = f 104 := (hF.2.2 104 (by decide) (by decide)).1
      refine Exists.intro _ (And.intro (c_isPassed_104 (d := d + 3) (b := true) (f := F) (mo := mo) (by rw [e2]; exact h5)) (And.intro (And.intro (Nat.zero_le _) (Nat.zero_le _)) (fun q h' hpo => ?_)))
      obtain ⟨rfl, rfl⟩ := hpo
      refine And.intro ?_ ⟨Or.inr rfl, Nat.le_refl _, Nat.le_refl _⟩
      refine ⟨_, G, rfl, rfl, v_C_fr hF.1 (fun k _ _ => x_un (by omega)) rfl, hF.2.1, fun k a b c => (x_un c).trans (hF.2.2 k a b).1, fun k a b => (hF.2.2 k a b).2, ?_, ?_, ?_, fun j a b c => ?_⟩
      · unfold x_up
        rw [x_us, x_un (by decide), e2]
        exact h2
      · unfold x_up
        rw [x_us, x_us]
        rfl
      · unfold x_up
        rw [x_us, x_un (by decide), e2]
        exact h6
      · unfold x_up
        rw [x_us, x_un b, e2]
  · have ww : (f 33 k).toInt = 17 := by rw [w1, hx]; rfl
    have o1q : v_ok v 1 0 0 := ⟨rfl, rfl⟩
    have h1q : f 12 1 = nI (v 1 0 0) := hC.1 1 0 0 o1q
    have b1q : v 1 0 0 ≤ 5 := (hB.1 1 0 0 o1q).2
    have o2q : v_ok v 2 0 0 := ⟨rfl, rfl⟩
    have h2q : f 12 2 = nI (v 2 0 0) := hC.1 2 0 0 o2q
    have b2q : v 2 0 0 ≤ 5 := (hB.1 2 0 0 o2q).2
    have ea : y_ac s v ch k = (if v 2 0 0 = 0 ∨ v 1 0 0 = 0 then none else s_buy v (y_dr ch / 8 % v 2 0 0) (y_dr (y_dr ch) / 8 % v 1 0 0) 1) := by unfold y_ac; rw [hx]; rfl
    have eb : y_bo s v ch k = y_is (y_ac s v ch k) 1 0 := by
      unfold y_bo
      rw [if_neg (by omega), if_pos hx]
    by_cases hz : v 2 0 0 = 0 ∨ v 1 0 0 = 0
    · have ec : y_cc s v ch k = ch := if_neg (fun q => q.2 hz)
      rw [if_pos hz] at ea
      rw [eb, ea, ec, y_mo_d (by omega), Nat.add_zero]
      refine x_wp_ok ok49 [216] 6 ?_
      refine And.intro (x_ix_nI (by omega) (by omega)) ?_
      rw [nI_clamp (by omega)]
      refine And.intro (And.intro (fun c => absurd (ww.symm.trans c) (by decide)) (And.intro (fun c => absurd (ww.symm.trans c) (by decide)) (And.intro (fun c => absurd (ww.symm.trans c) (by decide)) (And.intro (fun c => absurd (ww.symm.trans c) (by decide)) (And.intro (fun c => absurd (ww.symm.trans c) (by decide)) (And.intro (fun c => absurd (ww.symm.trans c) (by decide)) (And.intro (fun _ => ?_) trivial))))))) (fun c => absurd c (by rw [ww]; decide))
      refine And.intro (fun c => ?_) (fun c => ?_)
      · refine And.intro ?_ ⟨Or.inl rfl, Nat.le_refl _, Nat.le_refl _⟩
        exact ⟨f, g, rfl, rfl, x_LE_of (x_LC_0 hC) (by decide) (by decide) h2 h5 h6⟩
      · have c : ¬ f 12 2 = nI 0 := c
        rw [h2q, nI_eq (by omega) (by decide)] at c
        refine And.intro (fun c2 => ?_) (fun c2 => ?_)
        · have c2 : ¬ f 12 1 = nI 0 := c2
          rw [h1q, nI_eq (by omega) (by decide)] at c2
          omega
        · refine And.intro ?_ ⟨Or.inl rfl, Nat.le_refl _, Nat.le_refl _⟩
          exact ⟨f, g, rfl, rfl, x_LE_of (x_LC_0 hC) (by decide) (by decide) h2 h5 h6⟩
    · have ec : y_cc s v ch k = y_dr (y_dr ch) := if_pos ⟨hx, hz⟩
      rw [if_neg hz] at ea
      rw [eb, ea, ec, y_mo_d (by omega), Nat.add_zero]
      refine x_wp_ok ok49 [216] 6 ?_
      refine And.intro (x_ix_nI (by omega) (by omega)) ?_
      rw [nI_clamp (by omega)]
      refine And.intro (And.intro (fun c => absurd (ww.symm.trans c) (by decide)) (And.intro (fun c => absurd (ww.symm.trans c) (by decide)) (And.intro (fun c => absurd (ww.symm.trans c) (by decide)) (And.intro (fun c => absurd (ww.symm.trans c) (by decide)) (And.intro (fun c => absurd (ww.symm.trans c) (by decide)) (And.intro (fun c => absurd (ww.symm.trans c) (by decide)) (And.intro (fun _ => ?_) trivial))))))) (fun c => absurd c (by rw [ww]; decide))
      refine And.intro (fun c => ?_) (fun c => ?_)
      · have c : f 12 2 = nI 0 := c
        rw [h2q, nI_eq (by omega) (by decide)] at c
        omega
      · refine And.intro (fun c2 => ?_) (fun c2 => ?_)
        · have hd : y_dr ch < 65536 := Nat.mod_lt _ (by decide)
          have c1 := c_draw_104 (d := d + 2) (g := g) (r := r) (t := t) (dm := dm) (n := n) (m := v 2 0 0) h2 hch (by omega) (by omega)
          rw [← h2q] at c1
          refine Exists.intro _ (And.intro c1 (And.intro (And.intro (Nat.zero_le _) (Nat.zero_le _)) (fun q h' hpo => ?_)))
          obtain ⟨rfl, rfl⟩ := hpo
          have c3 := c_draw_104 (d := d + 2) (f := x_up f 104 2 (nI (y_dr ch))) (ch := y_dr ch) (g := g) (r := r) (t := t) (dm := dm) (n := n) (m := v 1 0 0) (by unfold x_up; rw [x_us, x_us]) hd (by omega) (by omega)
          rw [← h1q, ← (show x_up f 104 2 (nI (y_dr ch)) 12 1 = f 12 1 from rfl)] at c3
          refine Exists.intro _ (And.intro c3 (And.intro (And.intro (Nat.zero_le _) (Nat.zero_le _)) (fun q h' hpo => ?_)))
          obtain ⟨rfl, rfl⟩ := hpo
          refine c_buyStep_12_32_104 hC hBn hN (fun c hc => (x_un hc).trans (x_un hc)) ?_ ?_ ?_ (fun j a b c => ?_) (Nat.mod_lt _ (by omega)) (Nat.mod_lt _ (by omega)) (Nat.le_refl 1) (by decide)
          · unfold x_up
            rw [x_us, x_us]
          · unfold x_up
            rw [x_us, x_un (by decide), x_us, x_un (by decide)]
            exact h5
          · unfold x_up
            rw [x_us, x_un (by decide), x_us, x_un (by decide)]
            exact h6
          · unfold x_up
            rw [x_us, x_un a, x_us, x_un a]
        · have c2 : f 12 1 = nI 0 := c2
          rw [h1q, nI_eq (by omega) (by decide)] at c2
          omega
  · exact dflt (by omega) (by omega)
  · exact dflt (by omega) (by omega)
  · exact dflt (by omega) (by omega)
  · exact dflt (by omega) (by omega)
  · exact dflt (by omega) (by omega)
  · exact absurd hx he
theorem c_buyStep_22_32_104 {k p i m ch mo bo : Nat} {F : Nat → Nat → Int32} (hC : v_C f g 22 v) (hBn : v_Bn N v) (hN : N + 998001 < 2 ^ 60) (hF : ∀ c, c ≠ 104 → F c = f c) (h2 : F 104 2 = nI ch) (h5 : F 104 5 = nI mo) (h6 : F 104 6 = nI bo) (hj : ∀ j, j ≠ 2 → j ≠ 5 → j ≠ 6 → F 104 j = f 104 j) (hp : p < v 2 0 0) (hi : i < v 1 0 0) (hm1 : 1 ≤ m) (hm : m ≤ 999) : x_J 49 (d + 4) (x_PI f g 22 104 (x_HR r t) dm n (x_oB (s_buy v p i m)) (x_oV v (s_buy v p i m)) ch mo (bo + y_is (s_buy v p i m) m 0)) 216 [some (.ref 104), some (.ref 22), some (.ref 32), some (.int (nI k)), some (.int (nI p)), some (.int (nI i)), some (.int (nI m)), none, none] [] (F, g, x_HR r t, dm, n) 0 0 := by
  have hB := v_Bn_B hBn (by omega)
  have hC1 : v_C F g 22 v := v_C_fr hC (fun k _ _ => hF k (by omega)) rfl
  refine x_wp_ok ok49 [] 6 ?_
  refine Exists.intro _ (And.intro (c_wayToBuy_22 (d := d) hC1 hB hp hi hm) (And.intro (And.intro (Nat.zero_le _) (Nat.zero_le _)) (fun q h' hpo => ?_)))
  obtain ⟨rfl, G, rfl, hG⟩ := hpo
  have hL := x_LC_G (L := 22) (by decide) hG hC1
  refine Exists.intro _ (And.intro (c_purchase_22 (d := d) hL.1 hBn (by omega) hp hi hm1 hm) (And.intro (And.intro (Nat.zero_le _) (Nat.zero_le _)) (fun q h' hpo => ?_)))
  obtain ⟨F2, G2, rfl, rfl, hF2⟩ := hpo
  have hLC := x_LC_tr hL hF2
  have e2 : F2 104 = F 104 := (hLC.2.2 104 (by decide) (by decide)).1
  have hz : ∀ z, s_buy v p i m = some z → ¬ z.1 = -1 := by
    intro z hz
    unfold s_buy at hz
    split at hz
    · rename_i hcb
      have := (v_cb_at hcb).2.2.2
      cases hz
      exact x_nIm (by omega)
    · cases hz
  refine And.intro (fun c => ?_) (fun c => ?_)
  · have c : ¬ x_oW (-1) (s_buy v p i m) = -1 := c
    have c := fun q => c ((x_oW_m1 hz).mpr q)
    rw [x_oB_of.2 c]
    have e6 : F2 104 6 + nI m = nI (bo + m) := by rw [e2, h6, nI_add]
    have ei : y_is (s_buy v p i m) m 0 = m := by
      cases ho : s_buy v p i m with
      | none => exact absurd ho c
      | some z => rfl
    rw [ei]
    refine And.intro ?_ ⟨Or.inr rfl, Nat.le_refl _, Nat.le_refl _⟩
    refine ⟨_, G2, rfl, rfl, v_C_fr hLC.1 (fun k _ _ => x_un (by omega)) rfl, hLC.2.1, fun k a b c => (x_un c).trans ((hLC.2.2 k a b).1.trans (hF k c)), fun k a b => (hLC.2.2 k a b).2, ?_, ?_, ?_, fun j a b c => ?_⟩
    · unfold x_up
      rw [x_us, x_un (by decide), e2]
      exact h2
    · unfold x_up
      rw [x_us, x_un (by decide), e2]
      exact h5
    · unfold x_up
      rw [x_us, x_us]
      exact e6
    · unfold x_up
      rw [x_us, x_un c, e2]
      exact hj j a b c
  · have c : x_oW (-1) (s_buy v p i m) = -1 := c
    have c := (x_oW_m1 hz).mp c
    rw [x_oB_of.1 c]
    refine And.intro ?_ ⟨Or.inl rfl, Nat.le_refl _, Nat.le_refl _⟩
    have ei : y_is (s_buy v p i m) m 0 = 0 := by rw [c]; rfl
    rw [ei]
    exact ⟨F2, G2, rfl, rfl, hLC.1, hLC.2.1, fun k a b c => ((hLC.2.2 k a b).1.trans (hF k c)), fun k a b => (hLC.2.2 k a b).2, by rw [e2]; exact h2, by rw [e2]; exact h5, by rw [e2]; exact h6, fun j a b c => by rw [e2]; exact hj j a b c⟩
theorem c_isDone_22_32_104 {k ch mo bo : Nat} (hC : v_C f g 22 v) (hBn : v_Bn N v) (hN : N + 998001 < 2 ^ 60) (hSC : x_SC f 32 s NL) (hNL : NL ≤ 60) (hk : k < NL) (hli : y_li s (v 2 0 0) (v 0 0 0) (v 1 0 0) k) (he : s 0 k ≠ 23) (hch : ch < 65536) (h2 : f 104 2 = nI ch) (h5 : f 104 5 = nI mo) (h6 : f 104 6 = nI bo) : x_Ct 49 (d + 4) [.ref 104, .ref 22, .ref 32, .int (nI k)] (f, g, x_HR r t, dm, n) (x_PI f g 22 104 (x_HR r t) dm n (x_oB (y_ac s v ch k)) (x_oV v (y_ac s v ch k)) (y_cc s v ch k) (mo + y_mo s v ch k) (bo + y_bo s v ch k)) := by
  have hB := v_Bn_B hBn (by omega)
  have bK := v_B_K hB
  have bG := v_B_G hB
  have bP := v_B_P hB
  have h24 := y_li_24 hli
  have hw24 := y_wd_24 h24.2
  obtain ⟨w1, w2, w3, w4, w5⟩ := hSC.2 k hk
  have w1 : f 33 k = nI (y_wd (s 0 k)) := w1
  refine x_Ct_w (by decide) (Nat.le_of_ble_eq_true rfl) ok49 [24] 6 ?_
  refine And.intro (x_ix_nI (by omega) (by omega)) ?_
  rw [nI_clamp (by omega)]
  refine And.intro (x_ix_nI (by omega) (by omega)) ?_
  rw [nI_clamp (by omega)]
  refine And.intro (x_ix_nI (by omega) (by omega)) ?_
  rw [nI_clamp (by omega)]
  show x_J 49 (d + 4) (x_PI f g 22 104 (x_HR r t) dm n (x_oB (y_ac s v ch k)) (x_oV v (y_ac s v ch k)) (y_cc s v ch k) (mo + y_mo s v ch k) (bo + y_bo s v ch k)) 24 [some (.ref 104), some (.ref 22), some (.ref 32), some (.int (nI k)), some (.int (f 34 k)), some (.int (f 35 k)), some (.int (f 36 k)), none, none] [] (f, g, x_HR r t, dm, n) 0 0
  have hli0 := hli
  unfold y_li at hli0
  have dflt : 18 ≤ s 0 k → s 0 k ≤ 24 → x_J 49 (d + 4) (x_PI f g 22 104 (x_HR r t) dm n (x_oB (y_ac s v ch k)) (x_oV v (y_ac s v ch k)) (y_cc s v ch k) (mo + y_mo s v ch k) (bo + y_bo s v ch k)) 24 [some (.ref 104), some (.ref 22), some (.ref 32), some (.int (nI k)), some (.int (f 34 k)), some (.int (f 35 k)), some (.int (f 36 k)), none, none] [] (f, g, x_HR r t, dm, n) 0 0 := by
    intro q1 q2
    have ww : 18 ≤ (f 33 k).toInt := by
      rw [w1, nI_toInt (by omega)]
      unfold y_wd
      split <;> omega
    rw [y_ac_d q1, y_cc_d (by omega), y_mo_d (by omega), y_bo_d (by omega) (by omega), Nat.add_zero, Nat.add_zero]
    refine x_wp_ok ok49 [] 6 ?_
    refine And.intro (x_ix_nI (by omega) (by omega)) ?_
    rw [nI_clamp (by omega)]
    refine And.intro (And.intro (fun c => absurd (Int.le_trans ww (Int.le_of_eq c)) (by decide)) (And.intro (fun c => absurd (Int.le_trans ww (Int.le_of_eq c)) (by decide)) (And.intro (fun c => absurd (Int.le_trans ww (Int.le_of_eq c)) (by decide)) (And.intro (fun c => absurd (Int.le_trans ww (Int.le_of_eq c)) (by decide)) (And.intro (fun c => absurd (Int.le_trans ww (Int.le_of_eq c)) (by decide)) (And.intro (fun c => absurd (Int.le_trans ww (Int.le_of_eq c)) (by decide)) (And.intro (fun c => absurd (Int.le_trans ww (Int.le_of_eq c)) (by decide)) trivial))))))) (fun _ => ?_)
    refine And.intro ?_ ⟨Or.inr rfl, Nat.le_refl _, Nat.le_refl _⟩
    exact ⟨f, g, rfl, rfl, x_LE_of (x_LC_0 hC) (by decide) (by decide) h2 h5 h6⟩
  rcases hli0 with ⟨hx | hx | hx, h1, hi, h3, h4⟩ | ⟨hx | hx, h1, hi, h3, h4⟩ | ⟨hx, h3, h4⟩ | (hx | hx) | ⟨hx | ⟨hx, h1⟩ | ⟨hx, h1⟩, h3, h4⟩ | ⟨hx, h3, h4⟩ | hx
  · have hop : s 0 k = 11 := hx
    have ww : (f 33 k).toInt = 11 := by rw [w1, hop]; rfl
    obtain ⟨wp, wi⟩ := w2 (by omega)
    have wp : f 34 k = nI (s 1 k) := wp
    have wi : f 35 k = nI (s 2 k) := wi
    have wm : f 36 k = nI (s 3 k) := w4 (by omega) (by omega) (by omega)
    have ea : y_ac s v ch k = s_pay v (s 1 k) (s 2 k) (s 3 k) := by unfold y_ac; rw [hop]; rfl
    rw [wp, wi, wm, ea, y_cc_d (by omega), y_mo_d (by omega), y_bo_d (by omega) (by omega), Nat.add_zero, Nat.add_zero]
    refine x_wp_ok ok49 [] 6 ?_
    refine And.intro (x_ix_nI (by omega) (by omega)) ?_
    rw [nI_clamp (by omega)]
    refine And.intro (And.intro (fun _ => ?_) (And.intro (fun c => absurd (ww.symm.trans c) (by decide)) (And.intro (fun c => absurd (ww.symm.trans c) (by decide)) (And.intro (fun c => absurd (ww.symm.trans c) (by decide)) (And.intro (fun c => absurd (ww.symm.trans c) (by decide)) (And.intro (fun c => absurd (ww.symm.trans c) (by decide)) (And.intro (fun c => absurd (ww.symm.trans c) (by decide)) trivial))))))) (fun c => absurd c (by rw [ww]; decide))
    refine Exists.intro _ (And.intro (c_printFor_22 (d := d + 2) hC hB h1 hi (by omega)) (And.intro (And.intro (Nat.zero_le _) (Nat.zero_le _)) (fun q h' hpo => ?_)))
    obtain ⟨F, G, rfl, rfl, hF⟩ := x_PO_of hC hpo
    have hz : ∀ z, s_pay v (s 1 k) (s 2 k) (s 3 k) = some z → ¬ z.1 = -1 := by
      intro z hz
      unfold s_pay at hz
      split at hz
      · cases hz
      · cases hz
        exact x_nIm (by omega)
    refine And.intro (fun c => ?_) (fun c => ?_)
    · have c : x_oW (-1) (s_pay v (s 1 k) (s 2 k) (s 3 k)) = -1 := c
      have c := (x_oW_m1 hz).mp c
      rw [x_oB_of.1 c]
      refine And.intro ?_ ⟨Or.inl rfl, Nat.le_refl _, Nat.le_refl _⟩
      exact ⟨F, G, rfl, rfl, x_LE_of hF (by decide) (by decide) h2 h5 h6⟩
    · have c : ¬ x_oW (-1) (s_pay v (s 1 k) (s 2 k) (s 3 k)) = -1 := c
      have c := fun q => c ((x_oW_m1 hz).mpr q)
      rw [x_oB_of.2 c]
      refine And.intro ?_ ⟨Or.inr rfl, Nat.le_refl _, Nat.le_refl _⟩
      exact ⟨F, G, rfl, rfl, x_LE_of hF (by decide) (by decide) h2 h5 h6⟩
  · have hop : s 0 k = 14 := hx
    have ww : (f 33 k).toInt = 14 := by rw [w1, hop]; rfl
    obtain ⟨wp, wi⟩ := w2 (by omega)
    have wp : f 34 k = nI (s 1 k) := wp
    have wi : f 35 k = nI (s 2 k) := wi
    have wm : f 36 k = nI (s 3 k) := w4 (by omega) (by omega) (by omega)
    have ea : y_ac s v ch k = s_tear v (s 1 k) (s 2 k) (s 3 k) := by unfold y_ac; rw [hop]; rfl
    rw [wp, wi, wm, ea, y_cc_d (by omega), y_mo_d (by omega), y_bo_d (by omega) (by omega), Nat.add_zero, Nat.add_zero]
    refine x_wp_ok ok49 [] 6 ?_
    refine And.intro (x_ix_nI (by omega) (by omega)) ?_
    rw [nI_clamp (by omega)]
    refine And.intro (And.intro (fun c => absurd (ww.symm.trans c) (by decide)) (And.intro (fun c => absurd (ww.symm.trans c) (by decide)) (And.intro (fun c => absurd (ww.symm.trans c) (by decide)) (And.intro (fun _ => ?_) (And.intro (fun c => absurd (ww.symm.trans c) (by decide)) (And.intro (fun c => absurd (ww.symm.trans c) (by decide)) (And.intro (fun c => absurd (ww.symm.trans c) (by decide)) trivial))))))) (fun c => absurd c (by rw [ww]; decide))
    refine Exists.intro _ (And.intro (c_tearUp_22 (d := d + 2) hC hB h1 hi (by omega)) (And.intro (And.intro (Nat.zero_le _) (Nat.zero_le _)) (fun q h' hpo => ?_)))
    obtain ⟨F, G, rfl, rfl, hF⟩ := x_PO_of hC hpo
    have hz : ∀ z, s_tear v (s 1 k) (s 2 k) (s 3 k) = some z → ¬ z.1 = -1 := by
      intro z hz
      unfold s_tear at hz
      split at hz
      · cases hz
      · cases hz
        exact x_nIm (by omega)
    refine And.intro (fun c => ?_) (fun c => ?_)
    · have c : x_oW (-1) (s_tear v (s 1 k) (s 2 k) (s 3 k)) = -1 := c
      have c := (x_oW_m1 hz).mp c
      rw [x_oB_of.1 c]
      refine And.intro ?_ ⟨Or.inl rfl, Nat.le_refl _, Nat.le_refl _⟩
      exact ⟨F, G, rfl, rfl, x_LE_of hF (by decide) (by decide) h2 h5 h6⟩
    · have c : ¬ x_oW (-1) (s_tear v (s 1 k) (s 2 k) (s 3 k)) = -1 := c
      have c := fun q => c ((x_oW_m1 hz).mpr q)
      rw [x_oB_of.2 c]
      refine And.intro ?_ ⟨Or.inr rfl, Nat.le_refl _, Nat.le_refl _⟩
      exact ⟨F, G, rfl, rfl, x_LE_of hF (by decide) (by decide) h2 h5 h6⟩
  · have hop : s 0 k = 15 := hx
    have ww : (f 33 k).toInt = 15 := by rw [w1, hop]; rfl
    obtain ⟨wp, wi⟩ := w2 (by omega)
    have wp : f 34 k = nI (s 1 k) := wp
    have wi : f 35 k = nI (s 2 k) := wi
    have wm : f 36 k = nI (s 3 k) := w4 (by omega) (by omega) (by omega)
    have ea : y_ac s v ch k = s_mend v (s 1 k) (s 2 k) (s 3 k) := by unfold y_ac; rw [hop]; rfl
    rw [wp, wi, wm, ea, y_cc_d (by omega), y_mo_d (by omega), y_bo_d (by omega) (by omega), Nat.add_zero, Nat.add_zero]
    refine x_wp_ok ok49 [] 6 ?_
    refine And.intro (x_ix_nI (by omega) (by omega)) ?_
    rw [nI_clamp (by omega)]
    refine And.intro (And.intro (fun c => absurd (ww.symm.trans c) (by decide)) (And.intro (fun c => absurd (ww.symm.trans c) (by decide)) (And.intro (fun c => absurd (ww.symm.trans c) (by decide)) (And.intro (fun c => absurd (ww.symm.trans c) (by decide)) (And.intro (fun _ => ?_) (And.intro (fun c => absurd (ww.symm.trans c) (by decide)) (And.intro (fun c => absurd (ww.symm.trans c) (by decide)) trivial))))))) (fun c => absurd c (by rw [ww]; decide))
    refine Exists.intro _ (And.intro (c_mendTorn_22 (d := d + 2) hC hB h1 hi (by omega)) (And.intro (And.intro (Nat.zero_le _) (Nat.zero_le _)) (fun q h' hpo => ?_)))
    obtain ⟨F, G, rfl, rfl, hF⟩ := x_PO_of hC hpo
    have hz : ∀ z, s_mend v (s 1 k) (s 2 k) (s 3 k) = some z → ¬ z.1 = -1 := by
      intro z hz
      unfold s_mend at hz
      split at hz
      · cases hz
      · cases hz
        have : d_back v (s 1 k) (s 2 k) (s 3 k) ≤ 9999 - v 13 (s 1 k) (s 2 k) := Nat.min_le_right _ _
        exact x_nIm (by omega)
    refine And.intro (fun c => ?_) (fun c => ?_)
    · have c : x_oW (-1) (s_mend v (s 1 k) (s 2 k) (s 3 k)) = -1 := c
      have c := (x_oW_m1 hz).mp c
      rw [x_oB_of.1 c]
      refine And.intro ?_ ⟨Or.inl rfl, Nat.le_refl _, Nat.le_refl _⟩
      exact ⟨F, G, rfl, rfl, x_LE_of hF (by decide) (by decide) h2 h5 h6⟩
    · have c : ¬ x_oW (-1) (s_mend v (s 1 k) (s 2 k) (s 3 k)) = -1 := c
      have c := fun q => c ((x_oW_m1 hz).mpr q)
      rw [x_oB_of.2 c]
      refine And.intro ?_ ⟨Or.inr rfl, Nat.le_refl _, Nat.le_refl _⟩
      exact ⟨F, G, rfl, rfl, x_LE_of hF (by decide) (by decide) h2 h5 h6⟩
  · have ww : (f 33 k).toInt = 12 := by rw [w1, hx]; rfl
    obtain ⟨wp, wi⟩ := w2 (by omega)
    have wp : f 34 k = nI (s 1 k) := wp
    have wi : f 35 k = nI (s 2 k) := wi
    have wm : f 36 k = nI (s 3 k) := w4 (by omega) (by omega) (by omega)
    have ea : y_ac s v ch k = s_buy v (s 1 k) (s 2 k) (s 3 k) := by unfold y_ac; rw [hx]; rfl
    have eb : y_bo s v ch k = y_is (s_buy v (s 1 k) (s 2 k) (s 3 k)) (s 3 k) 0 := by
      unfold y_bo
      rw [if_pos hx, ea]
    rw [wp, wi, wm, ea, y_cc_d (by omega), y_mo_d (by omega), eb, Nat.add_zero]
    refine x_wp_ok ok49 [216] 6 ?_
    refine And.intro (x_ix_nI (by omega) (by omega)) ?_
    rw [nI_clamp (by omega)]
    refine And.intro (And.intro (fun c => absurd (ww.symm.trans c) (by decide)) (And.intro (fun _ => ?_) (And.intro (fun c => absurd (ww.symm.trans c) (by decide)) (And.intro (fun c => absurd (ww.symm.trans c) (by decide)) (And.intro (fun c => absurd (ww.symm.trans c) (by decide)) (And.intro (fun c => absurd (ww.symm.trans c) (by decide)) (And.intro (fun c => absurd (ww.symm.trans c) (by decide)) trivial))))))) (fun c => absurd c (by rw [ww]; decide))
    exact c_buyStep_22_32_104 hC hBn hN (fun _ _ => rfl) h2 h5 h6 (fun _ _ _ _ => rfl) h1 hi h3 (by omega)
  · have hop : s 0 k = 13 := hx
    have ww : (f 33 k).toInt = 13 := by rw [w1, hop]; rfl
    obtain ⟨wp, wi⟩ := w2 (by omega)
    have wp : f 34 k = nI (s 1 k) := wp
    have wi : f 35 k = nI (s 2 k) := wi
    have wm : f 36 k = nI (s 3 k) := w4 (by omega) (by omega) (by omega)
    have ea : y_ac s v ch k = s_sell v (s 1 k) (s 2 k) (s 3 k) := by unfold y_ac; rw [hop]; rfl
    rw [wp, wi, wm, ea, y_cc_d (by omega), y_mo_d (by omega), y_bo_d (by omega) (by omega), Nat.add_zero, Nat.add_zero]
    refine x_wp_ok ok49 [] 6 ?_
    refine And.intro (x_ix_nI (by omega) (by omega)) ?_
    rw [nI_clamp (by omega)]
    refine And.intro (And.intro (fun c => absurd (ww.symm.trans c) (by decide)) (And.intro (fun c => absurd (ww.symm.trans c) (by decide)) (And.intro (fun _ => ?_) (And.intro (fun c => absurd (ww.symm.trans c) (by decide)) (And.intro (fun c => absurd (ww.symm.trans c) (by decide)) (And.intro (fun c => absurd (ww.symm.trans c) (by decide)) (And.intro (fun c => absurd (ww.symm.trans c) (by decide)) trivial))))))) (fun c => absurd c (by rw [ww]; decide))
    refine Exists.intro _ (And.intro (c_takeGoods_22 (d := d) hC hBn (by omega) h1 hi h3 (by omega)) (And.intro (And.intro (Nat.zero_le _) (Nat.zero_le _)) (fun q h' hpo => ?_)))
    obtain ⟨F, G, rfl, rfl, hF⟩ := hpo
    have hz : ∀ z, s_sell v (s 1 k) (s 2 k) (s 3 k) = some z → ¬ z.1 = -1 := by
      intro z hz
      unfold s_sell at hz
      split at hz
      · rename_i hcs
        have := (v_cs_at hcs).2.2.2.1
        cases hz
        exact x_nIm (by omega)
      · cases hz
    refine And.intro (fun c => ?_) (fun c => ?_)
    · have c : x_oW (-1) (s_sell v (s 1 k) (s 2 k) (s 3 k)) = -1 := c
      have c := (x_oW_m1 hz).mp c
      rw [x_oB_of.1 c]
      refine And.intro ?_ ⟨Or.inl rfl, Nat.le_refl _, Nat.le_refl _⟩
      exact ⟨F, G, rfl, rfl, x_LE_of hF (by decide) (by decide) h2 h5 h6⟩
    · have c : ¬ x_oW (-1) (s_sell v (s 1 k) (s 2 k) (s 3 k)) = -1 := c
      have c := fun q => c ((x_oW_m1 hz).mpr q)
      rw [x_oB_of.2 c]
      refine And.intro ?_ ⟨Or.inr rfl, Nat.le_refl _, Nat.le_refl _⟩
      exact ⟨F, G, rfl, rfl, x_LE_of hF (by decide) (by decide) h2 h5 h6⟩
  · have ww : (f 33 k).toInt = 16 := by rw [w1, hx]; rfl
    have wm : f 36 k = nI (s 3 k) := w4 (by omega) (by omega) (by omega)
    have ea : y_ac s v ch k = s_mn v (s 3 k) := by unfold y_ac; rw [hx]; rfl
    have eb : y_mo s v ch k = y_is (s_mn v (s 3 k)) (s 3 k) 0 := by
      unfold y_mo
      rw [if_pos hx, ea]
    rw [wm, ea, y_cc_d (by omega), eb, y_bo_d (by omega) (by omega), Nat.add_zero]
    refine x_wp_ok ok49 [] 6 ?_
    refine And.intro (x_ix_nI (by omega) (by omega)) ?_
    rw [nI_clamp (by omega)]
    refine And.intro (And.intro (fun c => absurd (ww.symm.trans c) (by decide)) (And.intro (fun c => absurd (ww.symm.trans c) (by decide)) (And.intro (fun c => absurd (ww.symm.trans c) (by decide)) (And.intro (fun c => absurd (ww.symm.trans c) (by decide)) (And.intro (fun c => absurd (ww.symm.trans c) (by decide)) (And.intro (fun _ => ?_) (And.intro (fun c => absurd (ww.symm.trans c) (by decide)) trivial))))))) (fun c => absurd c (by rw [ww]; decide))
    have cl := c_passMonths_22 (d := d) (r := r) (t := t) (dm := dm) (n := n) (m := s 3 k) hC hBn hN (by omega)
    unfold s_mn
    by_cases hc : 9999 < v 6 0 0 + s 3 k
    · rw [if_pos hc] at cl
      rw [if_pos hc]
      refine Exists.intro _ (And.intro cl (And.intro (And.intro (Nat.zero_le _) (Nat.zero_le _)) (fun q h' hpo => ?_)))
      obtain ⟨rfl, rfl⟩ := hpo
      refine Exists.intro _ (And.intro (c_isPassed_104 (d := d + 3) (b := false) h5) (And.intro (And.intro (Nat.zero_le _) (Nat.zero_le _)) (fun q h' hpo => ?_)))
      obtain ⟨rfl, rfl⟩ := hpo
      refine And.intro ?_ ⟨Or.inl rfl, Nat.le_refl _, Nat.le_refl _⟩
      refine ⟨_, g, rfl, rfl, v_C_fr hC (fun k _ _ => x_un (by omega)) rfl, rfl, fun k a b c => x_un c, fun k a b => rfl, ?_, ?_, ?_, fun j a b c => ?_⟩
      · unfold x_up
        rw [x_us, x_un (by decide)]
        exact h2
      · unfold x_up
        rw [x_us, x_us]
        rfl
      · unfold x_up
        rw [x_us, x_un (by decide)]
        exact h6
      · unfold x_up
        rw [x_us, x_un b]
    · rw [if_neg hc] at cl
      rw [if_neg hc]
      refine Exists.intro _ (And.intro cl (And.intro (And.intro (Nat.zero_le _) (Nat.zero_le _)) (fun q h' hpo => ?_)))
      obtain ⟨F, G, rfl, rfl, hF⟩ := hpo
      have e2 : F 104 = f 104 := (hF.2.2 104 (by decide) (by decide)).1
      refine Exists.intro _ (And.intro (c_isPassed_104 (d := d + 3) (b := true) (f := F) (mo := mo) (by rw [e2]; exact h5)) (And.intro (And.intro (Nat.zero_le _) (Nat.zero_le _)) (fun q h' hpo => ?_)))
      obtain ⟨rfl, rfl⟩ := hpo
      refine And.intro ?_ ⟨Or.inr rfl, Nat.le_refl _, Nat.le_refl _⟩
      refine ⟨_, G, rfl, rfl, v_C_fr hF.1 (fun k _ _ => x_un (by omega)) rfl, hF.2.1, fun k a b c => (x_un c).trans (hF.2.2 k a b).1, fun k a b => (hF.2.2 k a b).2, ?_, ?_, ?_, fun j a b c => ?_⟩
      · unfold x_up
        rw [x_us, x_un (by decide), e2]
        exact h2
      · unfold x_up
        rw [x_us, x_us]
        rfl
      · unfold x_up
        rw [x_us, x_un (by decide), e2]
        exact h6
      · unfold x_up
        rw [x_us, x_un b, e2]
  · have ww : (f 33 k).toInt = 17 := by rw [w1, hx]; rfl
    have o1q : v_ok v 1 0 0 := ⟨rfl, rfl⟩
    have h1q : f 22 1 = nI (v 1 0 0) := hC.1 1 0 0 o1q
    have b1q : v 1 0 0 ≤ 5 := (hB.1 1 0 0 o1q).2
    have o2q : v_ok v 2 0 0 := ⟨rfl, rfl⟩
    have h2q : f 22 2 = nI (v 2 0 0) := hC.1 2 0 0 o2q
    have b2q : v 2 0 0 ≤ 5 := (hB.1 2 0 0 o2q).2
    have ea : y_ac s v ch k = (if v 2 0 0 = 0 ∨ v 1 0 0 = 0 then none else s_buy v (y_dr ch / 8 % v 2 0 0) (y_dr (y_dr ch) / 8 % v 1 0 0) 1) := by unfold y_ac; rw [hx]; rfl
    have eb : y_bo s v ch k = y_is (y_ac s v ch k) 1 0 := by
      unfold y_bo
      rw [if_neg (by omega), if_pos hx]
    by_cases hz : v 2 0 0 = 0 ∨ v 1 0 0 = 0
    · have ec : y_cc s v ch k = ch := if_neg (fun q => q.2 hz)
      rw [if_pos hz] at ea
      rw [eb, ea, ec, y_mo_d (by omega), Nat.add_zero]
      refine x_wp_ok ok49 [216] 6 ?_
      refine And.intro (x_ix_nI (by omega) (by omega)) ?_
      rw [nI_clamp (by omega)]
      refine And.intro (And.intro (fun c => absurd (ww.symm.trans c) (by decide)) (And.intro (fun c => absurd (ww.symm.trans c) (by decide)) (And.intro (fun c => absurd (ww.symm.trans c) (by decide)) (And.intro (fun c => absurd (ww.symm.trans c) (by decide)) (And.intro (fun c => absurd (ww.symm.trans c) (by decide)) (And.intro (fun c => absurd (ww.symm.trans c) (by decide)) (And.intro (fun _ => ?_) trivial))))))) (fun c => absurd c (by rw [ww]; decide))
      refine And.intro (fun c => ?_) (fun c => ?_)
      · refine And.intro ?_ ⟨Or.inl rfl, Nat.le_refl _, Nat.le_refl _⟩
        exact ⟨f, g, rfl, rfl, x_LE_of (x_LC_0 hC) (by decide) (by decide) h2 h5 h6⟩
      · have c : ¬ f 22 2 = nI 0 := c
        rw [h2q, nI_eq (by omega) (by decide)] at c
        refine And.intro (fun c2 => ?_) (fun c2 => ?_)
        · have c2 : ¬ f 22 1 = nI 0 := c2
          rw [h1q, nI_eq (by omega) (by decide)] at c2
          omega
        · refine And.intro ?_ ⟨Or.inl rfl, Nat.le_refl _, Nat.le_refl _⟩
          exact ⟨f, g, rfl, rfl, x_LE_of (x_LC_0 hC) (by decide) (by decide) h2 h5 h6⟩
    · have ec : y_cc s v ch k = y_dr (y_dr ch) := if_pos ⟨hx, hz⟩
      rw [if_neg hz] at ea
      rw [eb, ea, ec, y_mo_d (by omega), Nat.add_zero]
      refine x_wp_ok ok49 [216] 6 ?_
      refine And.intro (x_ix_nI (by omega) (by omega)) ?_
      rw [nI_clamp (by omega)]
      refine And.intro (And.intro (fun c => absurd (ww.symm.trans c) (by decide)) (And.intro (fun c => absurd (ww.symm.trans c) (by decide)) (And.intro (fun c => absurd (ww.symm.trans c) (by decide)) (And.intro (fun c => absurd (ww.symm.trans c) (by decide)) (And.intro (fun c => absurd (ww.symm.trans c) (by decide)) (And.intro (fun c => absurd (ww.symm.trans c) (by decide)) (And.intro (fun _ => ?_) trivial))))))) (fun c => absurd c (by rw [ww]; decide))
      refine And.intro (fun c => ?_) (fun c => ?_)
      · have c : f 22 2 = nI 0 := c
        rw [h2q, nI_eq (by omega) (by decide)] at c
        omega
      · refine And.intro (fun c2 => ?_) (fun c2 => ?_)
        · have hd : y_dr ch < 65536 := Nat.mod_lt _ (by decide)
          have c1 := c_draw_104 (d := d + 2) (g := g) (r := r) (t := t) (dm := dm) (n := n) (m := v 2 0 0) h2 hch (by omega) (by omega)
          rw [← h2q] at c1
          refine Exists.intro _ (And.intro c1 (And.intro (And.intro (Nat.zero_le _) (Nat.zero_le _)) (fun q h' hpo => ?_)))
          obtain ⟨rfl, rfl⟩ := hpo
          have c3 := c_draw_104 (d := d + 2) (f := x_up f 104 2 (nI (y_dr ch))) (ch := y_dr ch) (g := g) (r := r) (t := t) (dm := dm) (n := n) (m := v 1 0 0) (by unfold x_up; rw [x_us, x_us]) hd (by omega) (by omega)
          rw [← h1q, ← (show x_up f 104 2 (nI (y_dr ch)) 22 1 = f 22 1 from rfl)] at c3
          refine Exists.intro _ (And.intro c3 (And.intro (And.intro (Nat.zero_le _) (Nat.zero_le _)) (fun q h' hpo => ?_)))
          obtain ⟨rfl, rfl⟩ := hpo
          refine c_buyStep_22_32_104 hC hBn hN (fun c hc => (x_un hc).trans (x_un hc)) ?_ ?_ ?_ (fun j a b c => ?_) (Nat.mod_lt _ (by omega)) (Nat.mod_lt _ (by omega)) (Nat.le_refl 1) (by decide)
          · unfold x_up
            rw [x_us, x_us]
          · unfold x_up
            rw [x_us, x_un (by decide), x_us, x_un (by decide)]
            exact h5
          · unfold x_up
            rw [x_us, x_un (by decide), x_us, x_un (by decide)]
            exact h6
          · unfold x_up
            rw [x_us, x_un a, x_us, x_un a]
        · have c2 : f 22 1 = nI 0 := c2
          rw [h1q, nI_eq (by omega) (by decide)] at c2
          omega
  · exact dflt (by omega) (by omega)
  · exact dflt (by omega) (by omega)
  · exact dflt (by omega) (by omega)
  · exact dflt (by omega) (by omega)
  · exact dflt (by omega) (by omega)
  · exact absurd hx he
theorem c_buyStep_12_39_102 {k p i m ch mo bo : Nat} {F : Nat → Nat → Int32} (hC : v_C f g 12 v) (hBn : v_Bn N v) (hN : N + 998001 < 2 ^ 60) (hF : ∀ c, c ≠ 102 → F c = f c) (h2 : F 102 2 = nI ch) (h5 : F 102 5 = nI mo) (h6 : F 102 6 = nI bo) (hj : ∀ j, j ≠ 2 → j ≠ 5 → j ≠ 6 → F 102 j = f 102 j) (hp : p < v 2 0 0) (hi : i < v 1 0 0) (hm1 : 1 ≤ m) (hm : m ≤ 999) : x_J 49 (d + 4) (x_PI f g 12 102 (x_HR r t) dm n (x_oB (s_buy v p i m)) (x_oV v (s_buy v p i m)) ch mo (bo + y_is (s_buy v p i m) m 0)) 216 [some (.ref 102), some (.ref 12), some (.ref 39), some (.int (nI k)), some (.int (nI p)), some (.int (nI i)), some (.int (nI m)), none, none] [] (F, g, x_HR r t, dm, n) 0 0 := by
  have hB := v_Bn_B hBn (by omega)
  have hC1 : v_C F g 12 v := v_C_fr hC (fun k _ _ => hF k (by omega)) rfl
  refine x_wp_ok ok49 [] 6 ?_
  refine Exists.intro _ (And.intro (c_wayToBuy_12 (d := d) hC1 hB hp hi hm) (And.intro (And.intro (Nat.zero_le _) (Nat.zero_le _)) (fun q h' hpo => ?_)))
  obtain ⟨rfl, G, rfl, hG⟩ := hpo
  have hL := x_LC_G (L := 12) (by decide) hG hC1
  refine Exists.intro _ (And.intro (c_purchase_12 (d := d) hL.1 hBn (by omega) hp hi hm1 hm) (And.intro (And.intro (Nat.zero_le _) (Nat.zero_le _)) (fun q h' hpo => ?_)))
  obtain ⟨F2, G2, rfl, rfl, hF2⟩ := hpo
  have hLC := x_LC_tr hL hF2
  have e2 : F2 102 = F 102 := (hLC.2.2 102 (by decide) (by decide)).1
  have hz : ∀ z, s_buy v p i m = some z → ¬ z.1 = -1 := by
    intro z hz
    unfold s_buy at hz
    split at hz
    · rename_i hcb
      have := (v_cb_at hcb).2.2.2
      cases hz
      exact x_nIm (by omega)
    · cases hz
  refine And.intro (fun c => ?_) (fun c => ?_)
  · have c : ¬ x_oW (-1) (s_buy v p i m) = -1 := c
    have c := fun q => c ((x_oW_m1 hz).mpr q)
    rw [x_oB_of.2 c]
    have e6 : F2 102 6 + nI m = nI (bo + m) := by rw [e2, h6, nI_add]
    have ei : y_is (s_buy v p i m) m 0 = m := by
      cases ho : s_buy v p i m with
      | none => exact absurd ho c
      | some z => rfl
    rw [ei]
    refine And.intro ?_ ⟨Or.inr rfl, Nat.le_refl _, Nat.le_refl _⟩
    refine ⟨_, G2, rfl, rfl, v_C_fr hLC.1 (fun k _ _ => x_un (by omega)) rfl, hLC.2.1, fun k a b c => (x_un c).trans ((hLC.2.2 k a b).1.trans (hF k c)), fun k a b => (hLC.2.2 k a b).2, ?_, ?_, ?_, fun j a b c => ?_⟩
    · unfold x_up
      rw [x_us, x_un (by decide), e2]
      exact h2
    · unfold x_up
      rw [x_us, x_un (by decide), e2]
      exact h5
    · unfold x_up
      rw [x_us, x_us]
      exact e6
    · unfold x_up
      rw [x_us, x_un c, e2]
      exact hj j a b c
  · have c : x_oW (-1) (s_buy v p i m) = -1 := c
    have c := (x_oW_m1 hz).mp c
    rw [x_oB_of.1 c]
    refine And.intro ?_ ⟨Or.inl rfl, Nat.le_refl _, Nat.le_refl _⟩
    have ei : y_is (s_buy v p i m) m 0 = 0 := by rw [c]; rfl
    rw [ei]
    exact ⟨F2, G2, rfl, rfl, hLC.1, hLC.2.1, fun k a b c => ((hLC.2.2 k a b).1.trans (hF k c)), fun k a b => (hLC.2.2 k a b).2, by rw [e2]; exact h2, by rw [e2]; exact h5, by rw [e2]; exact h6, fun j a b c => by rw [e2]; exact hj j a b c⟩
theorem c_isDone_12_39_102 {k ch mo bo : Nat} (hC : v_C f g 12 v) (hBn : v_Bn N v) (hN : N + 998001 < 2 ^ 60) (hSC : x_SC f 39 s NL) (hNL : NL ≤ 60) (hk : k < NL) (hli : y_li s (v 2 0 0) (v 0 0 0) (v 1 0 0) k) (he : s 0 k ≠ 23) (hch : ch < 65536) (h2 : f 102 2 = nI ch) (h5 : f 102 5 = nI mo) (h6 : f 102 6 = nI bo) : x_Ct 49 (d + 4) [.ref 102, .ref 12, .ref 39, .int (nI k)] (f, g, x_HR r t, dm, n) (x_PI f g 12 102 (x_HR r t) dm n (x_oB (y_ac s v ch k)) (x_oV v (y_ac s v ch k)) (y_cc s v ch k) (mo + y_mo s v ch k) (bo + y_bo s v ch k)) := by
  have hB := v_Bn_B hBn (by omega)
  have bK := v_B_K hB
  have bG := v_B_G hB
  have bP := v_B_P hB
  have h24 := y_li_24 hli
  have hw24 := y_wd_24 h24.2
  obtain ⟨w1, w2, w3, w4, w5⟩ := hSC.2 k hk
  have w1 : f 40 k = nI (y_wd (s 0 k)) := w1
  refine x_Ct_w (by decide) (Nat.le_of_ble_eq_true rfl) ok49 [24] 6 ?_
  refine And.intro (x_ix_nI (by omega) (by omega)) ?_
  rw [nI_clamp (by omega)]
  refine And.intro (x_ix_nI (by omega) (by omega)) ?_
  rw [nI_clamp (by omega)]
  refine And.intro (x_ix_nI (by omega) (by omega)) ?_
  rw [nI_clamp (by omega)]
  show x_J 49 (d + 4) (x_PI f g 12 102 (x_HR r t) dm n (x_oB (y_ac s v ch k)) (x_oV v (y_ac s v ch k)) (y_cc s v ch k) (mo + y_mo s v ch k) (bo + y_bo s v ch k)) 24 [some (.ref 102), some (.ref 12), some (.ref 39), some (.int (nI k)), some (.int (f 41 k)), some (.int (f 42 k)), some (.int (f 43 k)), none, none] [] (f, g, x_HR r t, dm, n) 0 0
  have hli0 := hli
  unfold y_li at hli0
  have dflt : 18 ≤ s 0 k → s 0 k ≤ 24 → x_J 49 (d + 4) (x_PI f g 12 102 (x_HR r t) dm n (x_oB (y_ac s v ch k)) (x_oV v (y_ac s v ch k)) (y_cc s v ch k) (mo + y_mo s v ch k) (bo + y_bo s v ch k)) 24 [some (.ref 102), some (.ref 12), some (.ref 39), some (.int (nI k)), some (.int (f 41 k)), some (.int (f 42 k)), some (.int (f 43 k)), none, none] [] (f, g, x_HR r t, dm, n) 0 0 := by
    intro q1 q2
    have ww : 18 ≤ (f 40 k).toInt := by
      rw [w1, nI_toInt (by omega)]
      unfold y_wd
      split <;> omega
    rw [y_ac_d q1, y_cc_d (by omega), y_mo_d (by omega), y_bo_d (by omega) (by omega), Nat.add_zero, Nat.add_zero]
    refine x_wp_ok ok49 [] 6 ?_
    refine And.intro (x_ix_nI (by omega) (by omega)) ?_
    rw [nI_clamp (by omega)]
    refine And.intro (And.intro (fun c => absurd (Int.le_trans ww (Int.le_of_eq c)) (by decide)) (And.intro (fun c => absurd (Int.le_trans ww (Int.le_of_eq c)) (by decide)) (And.intro (fun c => absurd (Int.le_trans ww (Int.le_of_eq c)) (by decide)) (And.intro (fun c => absurd (Int.le_trans ww (Int.le_of_eq c)) (by decide)) (And.intro (fun c => absurd (Int.le_trans ww (Int.le_of_eq c)) (by decide)) (And.intro (fun c => absurd (Int.le_trans ww (Int.le_of_eq c)) (by decide)) (And.intro (fun c => absurd (Int.le_trans ww (Int.le_of_eq c)) (by decide)) trivial))))))) (fun _ => ?_)
    refine And.intro ?_ ⟨Or.inr rfl, Nat.le_refl _, Nat.le_refl _⟩
    exact ⟨f, g, rfl, rfl, x_LE_of (x_LC_0 hC) (by decide) (by decide) h2 h5 h6⟩
  rcases hli0 with ⟨hx | hx | hx, h1, hi, h3, h4⟩ | ⟨hx | hx, h1, hi, h3, h4⟩ | ⟨hx, h3, h4⟩ | (hx | hx) | ⟨hx | ⟨hx, h1⟩ | ⟨hx, h1⟩, h3, h4⟩ | ⟨hx, h3, h4⟩ | hx
  · have hop : s 0 k = 11 := hx
    have ww : (f 40 k).toInt = 11 := by rw [w1, hop]; rfl
    obtain ⟨wp, wi⟩ := w2 (by omega)
    have wp : f 41 k = nI (s 1 k) := wp
    have wi : f 42 k = nI (s 2 k) := wi
    have wm : f 43 k = nI (s 3 k) := w4 (by omega) (by omega) (by omega)
    have ea : y_ac s v ch k = s_pay v (s 1 k) (s 2 k) (s 3 k) := by unfold y_ac; rw [hop]; rfl
    rw [wp, wi, wm, ea, y_cc_d (by omega), y_mo_d (by omega), y_bo_d (by omega) (by omega), Nat.add_zero, Nat.add_zero]
    refine x_wp_ok ok49 [] 6 ?_
    refine And.intro (x_ix_nI (by omega) (by omega)) ?_
    rw [nI_clamp (by omega)]
    refine And.intro (And.intro (fun _ => ?_) (And.intro (fun c => absurd (ww.symm.trans c) (by decide)) (And.intro (fun c => absurd (ww.symm.trans c) (by decide)) (And.intro (fun c => absurd (ww.symm.trans c) (by decide)) (And.intro (fun c => absurd (ww.symm.trans c) (by decide)) (And.intro (fun c => absurd (ww.symm.trans c) (by decide)) (And.intro (fun c => absurd (ww.symm.trans c) (by decide)) trivial))))))) (fun c => absurd c (by rw [ww]; decide))
    refine Exists.intro _ (And.intro (c_printFor_12 (d := d + 2) hC hB h1 hi (by omega)) (And.intro (And.intro (Nat.zero_le _) (Nat.zero_le _)) (fun q h' hpo => ?_)))
    obtain ⟨F, G, rfl, rfl, hF⟩ := x_PO_of hC hpo
    have hz : ∀ z, s_pay v (s 1 k) (s 2 k) (s 3 k) = some z → ¬ z.1 = -1 := by
      intro z hz
      unfold s_pay at hz
      split at hz
      · cases hz
      · cases hz
        exact x_nIm (by omega)
    refine And.intro (fun c => ?_) (fun c => ?_)
    · have c : x_oW (-1) (s_pay v (s 1 k) (s 2 k) (s 3 k)) = -1 := c
      have c := (x_oW_m1 hz).mp c
      rw [x_oB_of.1 c]
      refine And.intro ?_ ⟨Or.inl rfl, Nat.le_refl _, Nat.le_refl _⟩
      exact ⟨F, G, rfl, rfl, x_LE_of hF (by decide) (by decide) h2 h5 h6⟩
    · have c : ¬ x_oW (-1) (s_pay v (s 1 k) (s 2 k) (s 3 k)) = -1 := c
      have c := fun q => c ((x_oW_m1 hz).mpr q)
      rw [x_oB_of.2 c]
      refine And.intro ?_ ⟨Or.inr rfl, Nat.le_refl _, Nat.le_refl _⟩
      exact ⟨F, G, rfl, rfl, x_LE_of hF (by decide) (by decide) h2 h5 h6⟩
  · have hop : s 0 k = 14 := hx
    have ww : (f 40 k).toInt = 14 := by rw [w1, hop]; rfl
    obtain ⟨wp, wi⟩ := w2 (by omega)
    have wp : f 41 k = nI (s 1 k) := wp
    have wi : f 42 k = nI (s 2 k) := wi
    have wm : f 43 k = nI (s 3 k) := w4 (by omega) (by omega) (by omega)
    have ea : y_ac s v ch k = s_tear v (s 1 k) (s 2 k) (s 3 k) := by unfold y_ac; rw [hop]; rfl
    rw [wp, wi, wm, ea, y_cc_d (by omega), y_mo_d (by omega), y_bo_d (by omega) (by omega), Nat.add_zero, Nat.add_zero]
    refine x_wp_ok ok49 [] 6 ?_
    refine And.intro (x_ix_nI (by omega) (by omega)) ?_
    rw [nI_clamp (by omega)]
    refine And.intro (And.intro (fun c => absurd (ww.symm.trans c) (by decide)) (And.intro (fun c => absurd (ww.symm.trans c) (by decide)) (And.intro (fun c => absurd (ww.symm.trans c) (by decide)) (And.intro (fun _ => ?_) (And.intro (fun c => absurd (ww.symm.trans c) (by decide)) (And.intro (fun c => absurd (ww.symm.trans c) (by decide)) (And.intro (fun c => absurd (ww.symm.trans c) (by decide)) trivial))))))) (fun c => absurd c (by rw [ww]; decide))
    refine Exists.intro _ (And.intro (c_tearUp_12 (d := d + 2) hC hB h1 hi (by omega)) (And.intro (And.intro (Nat.zero_le _) (Nat.zero_le _)) (fun q h' hpo => ?_)))
    obtain ⟨F, G, rfl, rfl, hF⟩ := x_PO_of hC hpo
    have hz : ∀ z, s_tear v (s 1 k) (s 2 k) (s 3 k) = some z → ¬ z.1 = -1 := by
      intro z hz
      unfold s_tear at hz
      split at hz
      · cases hz
      · cases hz
        exact x_nIm (by omega)
    refine And.intro (fun c => ?_) (fun c => ?_)
    · have c : x_oW (-1) (s_tear v (s 1 k) (s 2 k) (s 3 k)) = -1 := c
      have c := (x_oW_m1 hz).mp c
      rw [x_oB_of.1 c]
      refine And.intro ?_ ⟨Or.inl rfl, Nat.le_refl _, Nat.le_refl _⟩
      exact ⟨F, G, rfl, rfl, x_LE_of hF (by decide) (by decide) h2 h5 h6⟩
    · have c : ¬ x_oW (-1) (s_tear v (s 1 k) (s 2 k) (s 3 k)) = -1 := c
      have c := fun q => c ((x_oW_m1 hz).mpr q)
      rw [x_oB_of.2 c]
      refine And.intro ?_ ⟨Or.inr rfl, Nat.le_refl _, Nat.le_refl _⟩
      exact ⟨F, G, rfl, rfl, x_LE_of hF (by decide) (by decide) h2 h5 h6⟩
  · have hop : s 0 k = 15 := hx
    have ww : (f 40 k).toInt = 15 := by rw [w1, hop]; rfl
    obtain ⟨wp, wi⟩ := w2 (by omega)
    have wp : f 41 k = nI (s 1 k) := wp
    have wi : f 42 k = nI (s 2 k) := wi
    have wm : f 43 k = nI (s 3 k) := w4 (by omega) (by omega) (by omega)
    have ea : y_ac s v ch k = s_mend v (s 1 k) (s 2 k) (s 3 k) := by unfold y_ac; rw [hop]; rfl
    rw [wp, wi, wm, ea, y_cc_d (by omega), y_mo_d (by omega), y_bo_d (by omega) (by omega), Nat.add_zero, Nat.add_zero]
    refine x_wp_ok ok49 [] 6 ?_
    refine And.intro (x_ix_nI (by omega) (by omega)) ?_
    rw [nI_clamp (by omega)]
    refine And.intro (And.intro (fun c => absurd (ww.symm.trans c) (by decide)) (And.intro (fun c => absurd (ww.symm.trans c) (by decide)) (And.intro (fun c => absurd (ww.symm.trans c) (by decide)) (And.intro (fun c => absurd (ww.symm.trans c) (by decide)) (And.intro (fun _ => ?_) (And.intro (fun c => absurd (ww.symm.trans c) (by decide)) (And.intro (fun c => absurd (ww.symm.trans c) (by decide)) trivial))))))) (fun c => absurd c (by rw [ww]; decide))
    refine Exists.intro _ (And.intro (c_mendTorn_12 (d := d + 2) hC hB h1 hi (by omega)) (And.intro (And.intro (Nat.zero_le _) (Nat.zero_le _)) (fun q h' hpo => ?_)))
    obtain ⟨F, G, rfl, rfl, hF⟩ := x_PO_of hC hpo
    have hz : ∀ z, s_mend v (s 1 k) (s 2 k) (s 3 k) = some z → ¬ z.1 = -1 := by
      intro z hz
      unfold s_mend at hz
      split at hz
      · cases hz
      · cases hz
        have : d_back v (s 1 k) (s 2 k) (s 3 k) ≤ 9999 - v 13 (s 1 k) (s 2 k) := Nat.min_le_right _ _
        exact x_nIm (by omega)
    refine And.intro (fun c => ?_) (fun c => ?_)
    · have c : x_oW (-1) (s_mend v (s 1 k) (s 2 k) (s 3 k)) = -1 := c
      have c := (x_oW_m1 hz).mp c
      rw [x_oB_of.1 c]
      refine And.intro ?_ ⟨Or.inl rfl, Nat.le_refl _, Nat.le_refl _⟩
      exact ⟨F, G, rfl, rfl, x_LE_of hF (by decide) (by decide) h2 h5 h6⟩
    · have c : ¬ x_oW (-1) (s_mend v (s 1 k) (s 2 k) (s 3 k)) = -1 := c
      have c := fun q => c ((x_oW_m1 hz).mpr q)
      rw [x_oB_of.2 c]
      refine And.intro ?_ ⟨Or.inr rfl, Nat.le_refl _, Nat.le_refl _⟩
      exact ⟨F, G, rfl, rfl, x_LE_of hF (by decide) (by decide) h2 h5 h6⟩
  · have ww : (f 40 k).toInt = 12 := by rw [w1, hx]; rfl
    obtain ⟨wp, wi⟩ := w2 (by omega)
    have wp : f 41 k = nI (s 1 k) := wp
    have wi : f 42 k = nI (s 2 k) := wi
    have wm : f 43 k = nI (s 3 k) := w4 (by omega) (by omega) (by omega)
    have ea : y_ac s v ch k = s_buy v (s 1 k) (s 2 k) (s 3 k) := by unfold y_ac; rw [hx]; rfl
    have eb : y_bo s v ch k = y_is (s_buy v (s 1 k) (s 2 k) (s 3 k)) (s 3 k) 0 := by
      unfold y_bo
      rw [if_pos hx, ea]
    rw [wp, wi, wm, ea, y_cc_d (by omega), y_mo_d (by omega), eb, Nat.add_zero]
    refine x_wp_ok ok49 [216] 6 ?_
    refine And.intro (x_ix_nI (by omega) (by omega)) ?_
    rw [nI_clamp (by omega)]
    refine And.intro (And.intro (fun c => absurd (ww.symm.trans c) (by decide)) (And.intro (fun _ => ?_) (And.intro (fun c => absurd (ww.symm.trans c) (by decide)) (And.intro (fun c => absurd (ww.symm.trans c) (by decide)) (And.intro (fun c => absurd (ww.symm.trans c) (by decide)) (And.intro (fun c => absurd (ww.symm.trans c) (by decide)) (And.intro (fun c => absurd (ww.symm.trans c) (by decide)) trivial))))))) (fun c => absurd c (by rw [ww]; decide))
    exact c_buyStep_12_39_102 hC hBn hN (fun _ _ => rfl) h2 h5 h6 (fun _ _ _ _ => rfl) h1 hi h3 (by omega)
  · have hop : s 0 k = 13 := hx
    have ww : (f 40 k).toInt = 13 := by rw [w1, hop]; rfl
    obtain ⟨wp, wi⟩ := w2 (by omega)
    have wp : f 41 k = nI (s 1 k) := wp
    have wi : f 42 k = nI (s 2 k) := wi
    have wm : f 43 k = nI (s 3 k) := w4 (by omega) (by omega) (by omega)
    have ea : y_ac s v ch k = s_sell v (s 1 k) (s 2 k) (s 3 k) := by unfold y_ac; rw [hop]; rfl
    rw [wp, wi, wm, ea, y_cc_d (by omega), y_mo_d (by omega), y_bo_d (by omega) (by omega), Nat.add_zero, Nat.add_zero]
    refine x_wp_ok ok49 [] 6 ?_
    refine And.intro (x_ix_nI (by omega) (by omega)) ?_
    rw [nI_clamp (by omega)]
    refine And.intro (And.intro (fun c => absurd (ww.symm.trans c) (by decide)) (And.intro (fun c => absurd (ww.symm.trans c) (by decide)) (And.intro (fun _ => ?_) (And.intro (fun c => absurd (ww.symm.trans c) (by decide)) (And.intro (fun c => absurd (ww.symm.trans c) (by decide)) (And.intro (fun c => absurd (ww.symm.trans c) (by decide)) (And.intro (fun c => absurd (ww.symm.trans c) (by decide)) trivial))))))) (fun c => absurd c (by rw [ww]; decide))
    refine Exists.intro _ (And.intro (c_takeGoods_12 (d := d) hC hBn (by omega) h1 hi h3 (by omega)) (And.intro (And.intro (Nat.zero_le _) (Nat.zero_le _)) (fun q h' hpo => ?_)))
    obtain ⟨F, G, rfl, rfl, hF⟩ := hpo
    have hz : ∀ z, s_sell v (s 1 k) (s 2 k) (s 3 k) = some z → ¬ z.1 = -1 := by
      intro z hz
      unfold s_sell at hz
      split at hz
      · rename_i hcs
        have := (v_cs_at hcs).2.2.2.1
        cases hz
        exact x_nIm (by omega)
      · cases hz
    refine And.intro (fun c => ?_) (fun c => ?_)
    · have c : x_oW (-1) (s_sell v (s 1 k) (s 2 k) (s 3 k)) = -1 := c
      have c := (x_oW_m1 hz).mp c
      rw [x_oB_of.1 c]
      refine And.intro ?_ ⟨Or.inl rfl, Nat.le_refl _, Nat.le_refl _⟩
      exact ⟨F, G, rfl, rfl, x_LE_of hF (by decide) (by decide) h2 h5 h6⟩
    · have c : ¬ x_oW (-1) (s_sell v (s 1 k) (s 2 k) (s 3 k)) = -1 := c
      have c := fun q => c ((x_oW_m1 hz).mpr q)
      rw [x_oB_of.2 c]
      refine And.intro ?_ ⟨Or.inr rfl, Nat.le_refl _, Nat.le_refl _⟩
      exact ⟨F, G, rfl, rfl, x_LE_of hF (by decide) (by decide) h2 h5 h6⟩
  · have ww : (f 40 k).toInt = 16 := by rw [w1, hx]; rfl
    have wm : f 43 k = nI (s 3 k) := w4 (by omega) (by omega) (by omega)
    have ea : y_ac s v ch k = s_mn v (s 3 k) := by unfold y_ac; rw [hx]; rfl
    have eb : y_mo s v ch k = y_is (s_mn v (s 3 k)) (s 3 k) 0 := by
      unfold y_mo
      rw [if_pos hx, ea]
    rw [wm, ea, y_cc_d (by omega), eb, y_bo_d (by omega) (by omega), Nat.add_zero]
    refine x_wp_ok ok49 [] 6 ?_
    refine And.intro (x_ix_nI (by omega) (by omega)) ?_
    rw [nI_clamp (by omega)]
    refine And.intro (And.intro (fun c => absurd (ww.symm.trans c) (by decide)) (And.intro (fun c => absurd (ww.symm.trans c) (by decide)) (And.intro (fun c => absurd (ww.symm.trans c) (by decide)) (And.intro (fun c => absurd (ww.symm.trans c) (by decide)) (And.intro (fun c => absurd (ww.symm.trans c) (by decide)) (And.intro (fun _ => ?_) (And.intro (fun c => absurd (ww.symm.trans c) (by decide)) trivial))))))) (fun c => absurd c (by rw [ww]; decide))
    have cl := c_passMonths_12 (d := d) (r := r) (t := t) (dm := dm) (n := n) (m := s 3 k) hC hBn hN (by omega)
    unfold s_mn
    by_cases hc : 9999 < v 6 0 0 + s 3 k
    · rw [if_pos hc] at cl
      rw [if_pos hc]
      refine Exists.intro _ (And.intro cl (And.intro (And.intro (Nat.zero_le _) (Nat.zero_le _)) (fun q h' hpo => ?_)))
      obtain ⟨rfl, rfl⟩ := hpo
      refine Exists.intro _ (And.intro (c_isPassed_102 (d := d + 3) (b := false) h5) (And.intro (And.intro (Nat.zero_le _) (Nat.zero_le _)) (fun q h' hpo => ?_)))
      obtain ⟨rfl, rfl⟩ := hpo
      refine And.intro ?_ ⟨Or.inl rfl, Nat.le_refl _, Nat.le_refl _⟩
      refine ⟨_, g, rfl, rfl, v_C_fr hC (fun k _ _ => x_un (by omega)) rfl, rfl, fun k a b c => x_un c, fun k a b => rfl, ?_, ?_, ?_, fun j a b c => ?_⟩
      · unfold x_up
        rw [x_us, x_un (by decide)]
        exact h2
      · unfold x_up
        rw [x_us, x_us]
        rfl
      · unfold x_up
        rw [x_us, x_un (by decide)]
        exact h6
      · unfold x_up
        rw [x_us, x_un b]
    · rw [if_neg hc] at cl
      rw [if_neg hc]
      refine Exists.intro _ (And.intro cl (And.intro (And.intro (Nat.zero_le _) (Nat.zero_le _)) (fun q h' hpo => ?_)))
      obtain ⟨F, G, rfl, rfl, hF⟩ := hpo
      have e2 : F 102 = f 102 := (hF.2.2 102 (by decide) (by decide)).1
      refine Exists.intro _ (And.intro (c_isPassed_102 (d := d + 3) (b := true) (f := F) (mo := mo) (by rw [e2]; exact h5)) (And.intro (And.intro (Nat.zero_le _) (Nat.zero_le _)) (fun q h' hpo => ?_)))
      obtain ⟨rfl, rfl⟩ := hpo
      refine And.intro ?_ ⟨Or.inr rfl, Nat.le_refl _, Nat.le_refl _⟩
      refine ⟨_, G, rfl, rfl, v_C_fr hF.1 (fun k _ _ => x_un (by omega)) rfl, hF.2.1, fun k a b c => (x_un c).trans (hF.2.2 k a b).1, fun k a b => (hF.2.2 k a b).2, ?_, ?_, ?_, fun j a b c => ?_⟩
      · unfold x_up
        rw [x_us, x_un (by decide), e2]
        exact h2
      · unfold x_up
        rw [x_us, x_us]
        rfl
      · unfold x_up
        rw [x_us, x_un (by decide), e2]
        exact h6
      · unfold x_up
        rw [x_us, x_un b, e2]
  · have ww : (f 40 k).toInt = 17 := by rw [w1, hx]; rfl
    have o1q : v_ok v 1 0 0 := ⟨rfl, rfl⟩
    have h1q : f 12 1 = nI (v 1 0 0) := hC.1 1 0 0 o1q
    have b1q : v 1 0 0 ≤ 5 := (hB.1 1 0 0 o1q).2
    have o2q : v_ok v 2 0 0 := ⟨rfl, rfl⟩
    have h2q : f 12 2 = nI (v 2 0 0) := hC.1 2 0 0 o2q
    have b2q : v 2 0 0 ≤ 5 := (hB.1 2 0 0 o2q).2
    have ea : y_ac s v ch k = (if v 2 0 0 = 0 ∨ v 1 0 0 = 0 then none else s_buy v (y_dr ch / 8 % v 2 0 0) (y_dr (y_dr ch) / 8 % v 1 0 0) 1) := by unfold y_ac; rw [hx]; rfl
    have eb : y_bo s v ch k = y_is (y_ac s v ch k) 1 0 := by
      unfold y_bo
      rw [if_neg (by omega), if_pos hx]
    by_cases hz : v 2 0 0 = 0 ∨ v 1 0 0 = 0
    · have ec : y_cc s v ch k = ch := if_neg (fun q => q.2 hz)
      rw [if_pos hz] at ea
      rw [eb, ea, ec, y_mo_d (by omega), Nat.add_zero]
      refine x_wp_ok ok49 [216] 6 ?_
      refine And.intro (x_ix_nI (by omega) (by omega)) ?_
      rw [nI_clamp (by omega)]
      refine And.intro (And.intro (fun c => absurd (ww.symm.trans c) (by decide)) (And.intro (fun c => absurd (ww.symm.trans c) (by decide)) (And.intro (fun c => absurd (ww.symm.trans c) (by decide)) (And.intro (fun c => absurd (ww.symm.trans c) (by decide)) (And.intro (fun c => absurd (ww.symm.trans c) (by decide)) (And.intro (fun c => absurd (ww.symm.trans c) (by decide)) (And.intro (fun _ => ?_) trivial))))))) (fun c => absurd c (by rw [ww]; decide))
      refine And.intro (fun c => ?_) (fun c => ?_)
      · refine And.intro ?_ ⟨Or.inl rfl, Nat.le_refl _, Nat.le_refl _⟩
        exact ⟨f, g, rfl, rfl, x_LE_of (x_LC_0 hC) (by decide) (by decide) h2 h5 h6⟩
      · have c : ¬ f 12 2 = nI 0 := c
        rw [h2q, nI_eq (by omega) (by decide)] at c
        refine And.intro (fun c2 => ?_) (fun c2 => ?_)
        · have c2 : ¬ f 12 1 = nI 0 := c2
          rw [h1q, nI_eq (by omega) (by decide)] at c2
          omega
        · refine And.intro ?_ ⟨Or.inl rfl, Nat.le_refl _, Nat.le_refl _⟩
          exact ⟨f, g, rfl, rfl, x_LE_of (x_LC_0 hC) (by decide) (by decide) h2 h5 h6⟩
    · have ec : y_cc s v ch k = y_dr (y_dr ch) := if_pos ⟨hx, hz⟩
      rw [if_neg hz] at ea
      rw [eb, ea, ec, y_mo_d (by omega), Nat.add_zero]
      refine x_wp_ok ok49 [216] 6 ?_
      refine And.intro (x_ix_nI (by omega) (by omega)) ?_
      rw [nI_clamp (by omega)]
      refine And.intro (And.intro (fun c => absurd (ww.symm.trans c) (by decide)) (And.intro (fun c => absurd (ww.symm.trans c) (by decide)) (And.intro (fun c => absurd (ww.symm.trans c) (by decide)) (And.intro (fun c => absurd (ww.symm.trans c) (by decide)) (And.intro (fun c => absurd (ww.symm.trans c) (by decide)) (And.intro (fun c => absurd (ww.symm.trans c) (by decide)) (And.intro (fun _ => ?_) trivial))))))) (fun c => absurd c (by rw [ww]; decide))
      refine And.intro (fun c => ?_) (fun c => ?_)
      · have c : f 12 2 = nI 0 := c
        rw [h2q, nI_eq (by omega) (by decide)] at c
        omega
      · refine And.intro (fun c2 => ?_) (fun c2 => ?_)
        · have hd : y_dr ch < 65536 := Nat.mod_lt _ (by decide)
          have c1 := c_draw_102 (d := d + 2) (g := g) (r := r) (t := t) (dm := dm) (n := n) (m := v 2 0 0) h2 hch (by omega) (by omega)
          rw [← h2q] at c1
          refine Exists.intro _ (And.intro c1 (And.intro (And.intro (Nat.zero_le _) (Nat.zero_le _)) (fun q h' hpo => ?_)))
          obtain ⟨rfl, rfl⟩ := hpo
          have c3 := c_draw_102 (d := d + 2) (f := x_up f 102 2 (nI (y_dr ch))) (ch := y_dr ch) (g := g) (r := r) (t := t) (dm := dm) (n := n) (m := v 1 0 0) (by unfold x_up; rw [x_us, x_us]) hd (by omega) (by omega)
          rw [← h1q, ← (show x_up f 102 2 (nI (y_dr ch)) 12 1 = f 12 1 from rfl)] at c3
          refine Exists.intro _ (And.intro c3 (And.intro (And.intro (Nat.zero_le _) (Nat.zero_le _)) (fun q h' hpo => ?_)))
          obtain ⟨rfl, rfl⟩ := hpo
          refine c_buyStep_12_39_102 hC hBn hN (fun c hc => (x_un hc).trans (x_un hc)) ?_ ?_ ?_ (fun j a b c => ?_) (Nat.mod_lt _ (by omega)) (Nat.mod_lt _ (by omega)) (Nat.le_refl 1) (by decide)
          · unfold x_up
            rw [x_us, x_us]
          · unfold x_up
            rw [x_us, x_un (by decide), x_us, x_un (by decide)]
            exact h5
          · unfold x_up
            rw [x_us, x_un (by decide), x_us, x_un (by decide)]
            exact h6
          · unfold x_up
            rw [x_us, x_un a, x_us, x_un a]
        · have c2 : f 12 1 = nI 0 := c2
          rw [h1q, nI_eq (by omega) (by decide)] at c2
          omega
  · exact dflt (by omega) (by omega)
  · exact dflt (by omega) (by omega)
  · exact dflt (by omega) (by omega)
  · exact dflt (by omega) (by omega)
  · exact dflt (by omega) (by omega)
  · exact absurd hx he
theorem c_buyStep_22_39_102 {k p i m ch mo bo : Nat} {F : Nat → Nat → Int32} (hC : v_C f g 22 v) (hBn : v_Bn N v) (hN : N + 998001 < 2 ^ 60) (hF : ∀ c, c ≠ 102 → F c = f c) (h2 : F 102 2 = nI ch) (h5 : F 102 5 = nI mo) (h6 : F 102 6 = nI bo) (hj : ∀ j, j ≠ 2 → j ≠ 5 → j ≠ 6 → F 102 j = f 102 j) (hp : p < v 2 0 0) (hi : i < v 1 0 0) (hm1 : 1 ≤ m) (hm : m ≤ 999) : x_J 49 (d + 4) (x_PI f g 22 102 (x_HR r t) dm n (x_oB (s_buy v p i m)) (x_oV v (s_buy v p i m)) ch mo (bo + y_is (s_buy v p i m) m 0)) 216 [some (.ref 102), some (.ref 22), some (.ref 39), some (.int (nI k)), some (.int (nI p)), some (.int (nI i)), some (.int (nI m)), none, none] [] (F, g, x_HR r t, dm, n) 0 0 := by
  have hB := v_Bn_B hBn (by omega)
  have hC1 : v_C F g 22 v := v_C_fr hC (fun k _ _ => hF k (by omega)) rfl
  refine x_wp_ok ok49 [] 6 ?_
  refine Exists.intro _ (And.intro (c_wayToBuy_22 (d := d) hC1 hB hp hi hm) (And.intro (And.intro (Nat.zero_le _) (Nat.zero_le _)) (fun q h' hpo => ?_)))
  obtain ⟨rfl, G, rfl, hG⟩ := hpo
  have hL := x_LC_G (L := 22) (by decide) hG hC1
  refine Exists.intro _ (And.intro (c_purchase_22 (d := d) hL.1 hBn (by omega) hp hi hm1 hm) (And.intro (And.intro (Nat.zero_le _) (Nat.zero_le _)) (fun q h' hpo => ?_)))
  obtain ⟨F2, G2, rfl, rfl, hF2⟩ := hpo
  have hLC := x_LC_tr hL hF2
  have e2 : F2 102 = F 102 := (hLC.2.2 102 (by decide) (by decide)).1
  have hz : ∀ z, s_buy v p i m = some z → ¬ z.1 = -1 := by
    intro z hz
    unfold s_buy at hz
    split at hz
    · rename_i hcb
      have := (v_cb_at hcb).2.2.2
      cases hz
      exact x_nIm (by omega)
    · cases hz
  refine And.intro (fun c => ?_) (fun c => ?_)
  · have c : ¬ x_oW (-1) (s_buy v p i m) = -1 := c
    have c := fun q => c ((x_oW_m1 hz).mpr q)
    rw [x_oB_of.2 c]
    have e6 : F2 102 6 + nI m = nI (bo + m) := by rw [e2, h6, nI_add]
    have ei : y_is (s_buy v p i m) m 0 = m := by
      cases ho : s_buy v p i m with
      | none => exact absurd ho c
      | some z => rfl
    rw [ei]
    refine And.intro ?_ ⟨Or.inr rfl, Nat.le_refl _, Nat.le_refl _⟩
    refine ⟨_, G2, rfl, rfl, v_C_fr hLC.1 (fun k _ _ => x_un (by omega)) rfl, hLC.2.1, fun k a b c => (x_un c).trans ((hLC.2.2 k a b).1.trans (hF k c)), fun k a b => (hLC.2.2 k a b).2, ?_, ?_, ?_, fun j a b c => ?_⟩
    · unfold x_up
      rw [x_us, x_un (by decide), e2]
      exact h2
    · unfold x_up
      rw [x_us, x_un (by decide), e2]
      exact h5
    · unfold x_up
      rw [x_us, x_us]
      exact e6
    · unfold x_up
      rw [x_us, x_un c, e2]
      exact hj j a b c
  · have c : x_oW (-1) (s_buy v p i m) = -1 := c
    have c := (x_oW_m1 hz).mp c
    rw [x_oB_of.1 c]
    refine And.intro ?_ ⟨Or.inl rfl, Nat.le_refl _, Nat.le_refl _⟩
    have ei : y_is (s_buy v p i m) m 0 = 0 := by rw [c]; rfl
    rw [ei]
    exact ⟨F2, G2, rfl, rfl, hLC.1, hLC.2.1, fun k a b c => ((hLC.2.2 k a b).1.trans (hF k c)), fun k a b => (hLC.2.2 k a b).2, by rw [e2]; exact h2, by rw [e2]; exact h5, by rw [e2]; exact h6, fun j a b c => by rw [e2]; exact hj j a b c⟩
theorem c_isDone_22_39_102 {k ch mo bo : Nat} (hC : v_C f g 22 v) (hBn : v_Bn N v) (hN : N + 998001 < 2 ^ 60) (hSC : x_SC f 39 s NL) (hNL : NL ≤ 60) (hk : k < NL) (hli : y_li s (v 2 0 0) (v 0 0 0) (v 1 0 0) k) (he : s 0 k ≠ 23) (hch : ch < 65536) (h2 : f 102 2 = nI ch) (h5 : f 102 5 = nI mo) (h6 : f 102 6 = nI bo) : x_Ct 49 (d + 4) [.ref 102, .ref 22, .ref 39, .int (nI k)] (f, g, x_HR r t, dm, n) (x_PI f g 22 102 (x_HR r t) dm n (x_oB (y_ac s v ch k)) (x_oV v (y_ac s v ch k)) (y_cc s v ch k) (mo + y_mo s v ch k) (bo + y_bo s v ch k)) := by
  have hB := v_Bn_B hBn (by omega)
  have bK := v_B_K hB
  have bG := v_B_G hB
  have bP := v_B_P hB
  have h24 := y_li_24 hli
  have hw24 := y_wd_24 h24.2
  obtain ⟨w1, w2, w3, w4, w5⟩ := hSC.2 k hk
  have w1 : f 40 k = nI (y_wd (s 0 k)) := w1
  refine x_Ct_w (by decide) (Nat.le_of_ble_eq_true rfl) ok49 [24] 6 ?_
  refine And.intro (x_ix_nI (by omega) (by omega)) ?_
  rw [nI_clamp (by omega)]
  refine And.intro (x_ix_nI (by omega) (by omega)) ?_
  rw [nI_clamp (by omega)]
  refine And.intro (x_ix_nI (by omega) (by omega)) ?_
  rw [nI_clamp (by omega)]
  show x_J 49 (d + 4) (x_PI f g 22 102 (x_HR r t) dm n (x_oB (y_ac s v ch k)) (x_oV v (y_ac s v ch k)) (y_cc s v ch k) (mo + y_mo s v ch k) (bo + y_bo s v ch k)) 24 [some (.ref 102), some (.ref 22), some (.ref 39), some (.int (nI k)), some (.int (f 41 k)), some (.int (f 42 k)), some (.int (f 43 k)), none, none] [] (f, g, x_HR r t, dm, n) 0 0
  have hli0 := hli
  unfold y_li at hli0
  have dflt : 18 ≤ s 0 k → s 0 k ≤ 24 → x_J 49 (d + 4) (x_PI f g 22 102 (x_HR r t) dm n (x_oB (y_ac s v ch k)) (x_oV v (y_ac s v ch k)) (y_cc s v ch k) (mo + y_mo s v ch k) (bo + y_bo s v ch k)) 24 [some (.ref 102), some (.ref 22), some (.ref 39), some (.int (nI k)), some (.int (f 41 k)), some (.int (f 42 k)), some (.int (f 43 k)), none, none] [] (f, g, x_HR r t, dm, n) 0 0 := by
    intro q1 q2
    have ww : 18 ≤ (f 40 k).toInt := by
      rw [w1, nI_toInt (by omega)]
      unfold y_wd
      split <;> omega
    rw [y_ac_d q1, y_cc_d (by omega), y_mo_d (by omega), y_bo_d (by omega) (by omega), Nat.add_zero, Nat.add_zero]
    refine x_wp_ok ok49 [] 6 ?_
    refine And.intro (x_ix_nI (by omega) (by omega)) ?_
    rw [nI_clamp (by omega)]
    refine And.intro (And.intro (fun c => absurd (Int.le_trans ww (Int.le_of_eq c)) (by decide)) (And.intro (fun c => absurd (Int.le_trans ww (Int.le_of_eq c)) (by decide)) (And.intro (fun c => absurd (Int.le_trans ww (Int.le_of_eq c)) (by decide)) (And.intro (fun c => absurd (Int.le_trans ww (Int.le_of_eq c)) (by decide)) (And.intro (fun c => absurd (Int.le_trans ww (Int.le_of_eq c)) (by decide)) (And.intro (fun c => absurd (Int.le_trans ww (Int.le_of_eq c)) (by decide)) (And.intro (fun c => absurd (Int.le_trans ww (Int.le_of_eq c)) (by decide)) trivial))))))) (fun _ => ?_)
    refine And.intro ?_ ⟨Or.inr rfl, Nat.le_refl _, Nat.le_refl _⟩
    exact ⟨f, g, rfl, rfl, x_LE_of (x_LC_0 hC) (by decide) (by decide) h2 h5 h6⟩
  rcases hli0 with ⟨hx | hx | hx, h1, hi, h3, h4⟩ | ⟨hx | hx, h1, hi, h3, h4⟩ | ⟨hx, h3, h4⟩ | (hx | hx) | ⟨hx | ⟨hx, h1⟩ | ⟨hx, h1⟩, h3, h4⟩ | ⟨hx, h3, h4⟩ | hx
  · have hop : s 0 k = 11 := hx
    have ww : (f 40 k).toInt = 11 := by rw [w1, hop]; rfl
    obtain ⟨wp, wi⟩ := w2 (by omega)
    have wp : f 41 k = nI (s 1 k) := wp
    have wi : f 42 k = nI (s 2 k) := wi
    have wm : f 43 k = nI (s 3 k) := w4 (by omega) (by omega) (by omega)
    have ea : y_ac s v ch k = s_pay v (s 1 k) (s 2 k) (s 3 k) := by unfold y_ac; rw [hop]; rfl
    rw [wp, wi, wm, ea, y_cc_d (by omega), y_mo_d (by omega), y_bo_d (by omega) (by omega), Nat.add_zero, Nat.add_zero]
    refine x_wp_ok ok49 [] 6 ?_
    refine And.intro (x_ix_nI (by omega) (by omega)) ?_
    rw [nI_clamp (by omega)]
    refine And.intro (And.intro (fun _ => ?_) (And.intro (fun c => absurd (ww.symm.trans c) (by decide)) (And.intro (fun c => absurd (ww.symm.trans c) (by decide)) (And.intro (fun c => absurd (ww.symm.trans c) (by decide)) (And.intro (fun c => absurd (ww.symm.trans c) (by decide)) (And.intro (fun c => absurd (ww.symm.trans c) (by decide)) (And.intro (fun c => absurd (ww.symm.trans c) (by decide)) trivial))))))) (fun c => absurd c (by rw [ww]; decide))
    refine Exists.intro _ (And.intro (c_printFor_22 (d := d + 2) hC hB h1 hi (by omega)) (And.intro (And.intro (Nat.zero_le _) (Nat.zero_le _)) (fun q h' hpo => ?_)))
    obtain ⟨F, G, rfl, rfl, hF⟩ := x_PO_of hC hpo
    have hz : ∀ z, s_pay v (s 1 k) (s 2 k) (s 3 k) = some z → ¬ z.1 = -1 := by
      intro z hz
      unfold s_pay at hz
      split at hz
      · cases hz
      · cases hz
        exact x_nIm (by omega)
    refine And.intro (fun c => ?_) (fun c => ?_)
    · have c : x_oW (-1) (s_pay v (s 1 k) (s 2 k) (s 3 k)) = -1 := c
      have c := (x_oW_m1 hz).mp c
      rw [x_oB_of.1 c]
      refine And.intro ?_ ⟨Or.inl rfl, Nat.le_refl _, Nat.le_refl _⟩
      exact ⟨F, G, rfl, rfl, x_LE_of hF (by decide) (by decide) h2 h5 h6⟩
    · have c : ¬ x_oW (-1) (s_pay v (s 1 k) (s 2 k) (s 3 k)) = -1 := c
      have c := fun q => c ((x_oW_m1 hz).mpr q)
      rw [x_oB_of.2 c]
      refine And.intro ?_ ⟨Or.inr rfl, Nat.le_refl _, Nat.le_refl _⟩
      exact ⟨F, G, rfl, rfl, x_LE_of hF (by decide) (by decide) h2 h5 h6⟩
  · have hop : s 0 k = 14 := hx
    have ww : (f 40 k).toInt = 14 := by rw [w1, hop]; rfl
    obtain ⟨wp, wi⟩ := w2 (by omega)
    have wp : f 41 k = nI (s 1 k) := wp
    have wi : f 42 k = nI (s 2 k) := wi
    have wm : f 43 k = nI (s 3 k) := w4 (by omega) (by omega) (by omega)
    have ea : y_ac s v ch k = s_tear v (s 1 k) (s 2 k) (s 3 k) := by unfold y_ac; rw [hop]; rfl
    rw [wp, wi, wm, ea, y_cc_d (by omega), y_mo_d (by omega), y_bo_d (by omega) (by omega), Nat.add_zero, Nat.add_zero]
    refine x_wp_ok ok49 [] 6 ?_
    refine And.intro (x_ix_nI (by omega) (by omega)) ?_
    rw [nI_clamp (by omega)]
    refine And.intro (And.intro (fun c => absurd (ww.symm.trans c) (by decide)) (And.intro (fun c => absurd (ww.symm.trans c) (by decide)) (And.intro (fun c => absurd (ww.symm.trans c) (by decide)) (And.intro (fun _ => ?_) (And.intro (fun c => absurd (ww.symm.trans c) (by decide)) (And.intro (fun c => absurd (ww.symm.trans c) (by decide)) (And.intro (fun c => absurd (ww.symm.trans c) (by decide)) trivial))))))) (fun c => absurd c (by rw [ww]; decide))
    refine Exists.intro _ (And.intro (c_tearUp_22 (d := d + 2) hC hB h1 hi (by omega)) (And.intro (And.intro (Nat.zero_le _) (Nat.zero_le _)) (fun q h' hpo => ?_)))
    obtain ⟨F, G, rfl, rfl, hF⟩ := x_PO_of hC hpo
    have hz : ∀ z, s_tear v (s 1 k) (s 2 k) (s 3 k) = some z → ¬ z.1 = -1 := by
      intro z hz
      unfold s_tear at hz
      split at hz
      · cases hz
      · cases hz
        exact x_nIm (by omega)
    refine And.intro (fun c => ?_) (fun c => ?_)
    · have c : x_oW (-1) (s_tear v (s 1 k) (s 2 k) (s 3 k)) = -1 := c
      have c := (x_oW_m1 hz).mp c
      rw [x_oB_of.1 c]
      refine And.intro ?_ ⟨Or.inl rfl, Nat.le_refl _, Nat.le_refl _⟩
      exact ⟨F, G, rfl, rfl, x_LE_of hF (by decide) (by decide) h2 h5 h6⟩
    · have c : ¬ x_oW (-1) (s_tear v (s 1 k) (s 2 k) (s 3 k)) = -1 := c
      have c := fun q => c ((x_oW_m1 hz).mpr q)
      rw [x_oB_of.2 c]
      refine And.intro ?_ ⟨Or.inr rfl, Nat.le_refl _, Nat.le_refl _⟩
      exact ⟨F, G, rfl, rfl, x_LE_of hF (by decide) (by decide) h2 h5 h6⟩
  · have hop : s 0 k = 15 := hx
    have ww : (f 40 k).toInt = 15 := by rw [w1, hop]; rfl
    obtain ⟨wp, wi⟩ := w2 (by omega)
    have wp : f 41 k = nI (s 1 k) := wp
    have wi : f 42 k = nI (s 2 k) := wi
    have wm : f 43 k = nI (s 3 k) := w4 (by omega) (by omega) (by omega)
    have ea : y_ac s v ch k = s_mend v (s 1 k) (s 2 k) (s 3 k) := by unfold y_ac; rw [hop]; rfl
    rw [wp, wi, wm, ea, y_cc_d (by omega), y_mo_d (by omega), y_bo_d (by omega) (by omega), Nat.add_zero, Nat.add_zero]
    refine x_wp_ok ok49 [] 6 ?_
    refine And.intro (x_ix_nI (by omega) (by omega)) ?_
    rw [nI_clamp (by omega)]
    refine And.intro (And.intro (fun c => absurd (ww.symm.trans c) (by decide)) (And.intro (fun c => absurd (ww.symm.trans c) (by decide)) (And.intro (fun c => absurd (ww.symm.trans c) (by decide)) (And.intro (fun c => absurd (ww.symm.trans c) (by decide)) (And.intro (fun _ => ?_) (And.intro (fun c => absurd (ww.symm.trans c) (by decide)) (And.intro (fun c => absurd (ww.symm.trans c) (by decide)) trivial))))))) (fun c => absurd c (by rw [ww]; decide))
    refine Exists.intro _ (And.intro (c_mendTorn_22 (d := d + 2) hC hB h1 hi (by omega)) (And.intro (And.intro (Nat.zero_le _) (Nat.zero_le _)) (fun q h' hpo => ?_)))
    obtain ⟨F, G, rfl, rfl, hF⟩ := x_PO_of hC hpo
    have hz : ∀ z, s_mend v (s 1 k) (s 2 k) (s 3 k) = some z → ¬ z.1 = -1 := by
      intro z hz
      unfold s_mend at hz
      split at hz
      · cases hz
      · cases hz
        have : d_back v (s 1 k) (s 2 k) (s 3 k) ≤ 9999 - v 13 (s 1 k) (s 2 k) := Nat.min_le_right _ _
        exact x_nIm (by omega)
    refine And.intro (fun c => ?_) (fun c => ?_)
    · have c : x_oW (-1) (s_mend v (s 1 k) (s 2 k) (s 3 k)) = -1 := c
      have c := (x_oW_m1 hz).mp c
      rw [x_oB_of.1 c]
      refine And.intro ?_ ⟨Or.inl rfl, Nat.le_refl _, Nat.le_refl _⟩
      exact ⟨F, G, rfl, rfl, x_LE_of hF (by decide) (by decide) h2 h5 h6⟩
    · have c : ¬ x_oW (-1) (s_mend v (s 1 k) (s 2 k) (s 3 k)) = -1 := c
      have c := fun q => c ((x_oW_m1 hz).mpr q)
      rw [x_oB_of.2 c]
      refine And.intro ?_ ⟨Or.inr rfl, Nat.le_refl _, Nat.le_refl _⟩
      exact ⟨F, G, rfl, rfl, x_LE_of hF (by decide) (by decide) h2 h5 h6⟩
  · have ww : (f 40 k).toInt = 12 := by rw [w1, hx]; rfl
    obtain ⟨wp, wi⟩ := w2 (by omega)
    have wp : f 41 k = nI (s 1 k) := wp
    have wi : f 42 k = nI (s 2 k) := wi
    have wm : f 43 k = nI (s 3 k) := w4 (by omega) (by omega) (by omega)
    have ea : y_ac s v ch k = s_buy v (s 1 k) (s 2 k) (s 3 k) := by unfold y_ac; rw [hx]; rfl
    have eb : y_bo s v ch k = y_is (s_buy v (s 1 k) (s 2 k) (s 3 k)) (s 3 k) 0 := by
      unfold y_bo
      rw [if_pos hx, ea]
    rw [wp, wi, wm, ea, y_cc_d (by omega), y_mo_d (by omega), eb, Nat.add_zero]
    refine x_wp_ok ok49 [216] 6 ?_
    refine And.intro (x_ix_nI (by omega) (by omega)) ?_
    rw [nI_clamp (by omega)]
    refine And.intro (And.intro (fun c => absurd (ww.symm.trans c) (by decide)) (And.intro (fun _ => ?_) (And.intro (fun c => absurd (ww.symm.trans c) (by decide)) (And.intro (fun c => absurd (ww.symm.trans c) (by decide)) (And.intro (fun c => absurd (ww.symm.trans c) (by decide)) (And.intro (fun c => absurd (ww.symm.trans c) (by decide)) (And.intro (fun c => absurd (ww.symm.trans c) (by decide)) trivial))))))) (fun c => absurd c (by rw [ww]; decide))
    exact c_buyStep_22_39_102 hC hBn hN (fun _ _ => rfl) h2 h5 h6 (fun _ _ _ _ => rfl) h1 hi h3 (by omega)
  · have hop : s 0 k = 13 := hx
    have ww : (f 40 k).toInt = 13 := by rw [w1, hop]; rfl
    obtain ⟨wp, wi⟩ := w2 (by omega)
    have wp : f 41 k = nI (s 1 k) := wp
    have wi : f 42 k = nI (s 2 k) := wi
    have wm : f 43 k = nI (s 3 k) := w4 (by omega) (by omega) (by omega)
    have ea : y_ac s v ch k = s_sell v (s 1 k) (s 2 k) (s 3 k) := by unfold y_ac; rw [hop]; rfl
    rw [wp, wi, wm, ea, y_cc_d (by omega), y_mo_d (by omega), y_bo_d (by omega) (by omega), Nat.add_zero, Nat.add_zero]
    refine x_wp_ok ok49 [] 6 ?_
    refine And.intro (x_ix_nI (by omega) (by omega)) ?_
    rw [nI_clamp (by omega)]
    refine And.intro (And.intro (fun c => absurd (ww.symm.trans c) (by decide)) (And.intro (fun c => absurd (ww.symm.trans c) (by decide)) (And.intro (fun _ => ?_) (And.intro (fun c => absurd (ww.symm.trans c) (by decide)) (And.intro (fun c => absurd (ww.symm.trans c) (by decide)) (And.intro (fun c => absurd (ww.symm.trans c) (by decide)) (And.intro (fun c => absurd (ww.symm.trans c) (by decide)) trivial))))))) (fun c => absurd c (by rw [ww]; decide))
    refine Exists.intro _ (And.intro (c_takeGoods_22 (d := d) hC hBn (by omega) h1 hi h3 (by omega)) (And.intro (And.intro (Nat.zero_le _) (Nat.zero_le _)) (fun q h' hpo => ?_)))
    obtain ⟨F, G, rfl, rfl, hF⟩ := hpo
    have hz : ∀ z, s_sell v (s 1 k) (s 2 k) (s 3 k) = some z → ¬ z.1 = -1 := by
      intro z hz
      unfold s_sell at hz
      split at hz
      · rename_i hcs
        have := (v_cs_at hcs).2.2.2.1
        cases hz
        exact x_nIm (by omega)
      · cases hz
    refine And.intro (fun c => ?_) (fun c => ?_)
    · have c : x_oW (-1) (s_sell v (s 1 k) (s 2 k) (s 3 k)) = -1 := c
      have c := (x_oW_m1 hz).mp c
      rw [x_oB_of.1 c]
      refine And.intro ?_ ⟨Or.inl rfl, Nat.le_refl _, Nat.le_refl _⟩
      exact ⟨F, G, rfl, rfl, x_LE_of hF (by decide) (by decide) h2 h5 h6⟩
    · have c : ¬ x_oW (-1) (s_sell v (s 1 k) (s 2 k) (s 3 k)) = -1 := c
      have c := fun q => c ((x_oW_m1 hz).mpr q)
      rw [x_oB_of.2 c]
      refine And.intro ?_ ⟨Or.inr rfl, Nat.le_refl _, Nat.le_refl _⟩
      exact ⟨F, G, rfl, rfl, x_LE_of hF (by decide) (by decide) h2 h5 h6⟩
  · have ww : (f 40 k).toInt = 16 := by rw [w1, hx]; rfl
    have wm : f 43 k = nI (s 3 k) := w4 (by omega) (by omega) (by omega)
    have ea : y_ac s v ch k = s_mn v (s 3 k) := by unfold y_ac; rw [hx]; rfl
    have eb : y_mo s v ch k = y_is (s_mn v (s 3 k)) (s 3 k) 0 := by
      unfold y_mo
      rw [if_pos hx, ea]
    rw [wm, ea, y_cc_d (by omega), eb, y_bo_d (by omega) (by omega), Nat.add_zero]
    refine x_wp_ok ok49 [] 6 ?_
    refine And.intro (x_ix_nI (by omega) (by omega)) ?_
    rw [nI_clamp (by omega)]
    refine And.intro (And.intro (fun c => absurd (ww.symm.trans c) (by decide)) (And.intro (fun c => absurd (ww.symm.trans c) (by decide)) (And.intro (fun c => absurd (ww.symm.trans c) (by decide)) (And.intro (fun c => absurd (ww.symm.trans c) (by decide)) (And.intro (fun c => absurd (ww.symm.trans c) (by decide)) (And.intro (fun _ => ?_) (And.intro (fun c => absurd (ww.symm.trans c) (by decide)) trivial))))))) (fun c => absurd c (by rw [ww]; decide))
    have cl := c_passMonths_22 (d := d) (r := r) (t := t) (dm := dm) (n := n) (m := s 3 k) hC hBn hN (by omega)
    unfold s_mn
    by_cases hc : 9999 < v 6 0 0 + s 3 k
    · rw [if_pos hc] at cl
      rw [if_pos hc]
      refine Exists.intro _ (And.intro cl (And.intro (And.intro (Nat.zero_le _) (Nat.zero_le _)) (fun q h' hpo => ?_)))
      obtain ⟨rfl, rfl⟩ := hpo
      refine Exists.intro _ (And.intro (c_isPassed_102 (d := d + 3) (b := false) h5) (And.intro (And.intro (Nat.zero_le _) (Nat.zero_le _)) (fun q h' hpo => ?_)))
      obtain ⟨rfl, rfl⟩ := hpo
      refine And.intro ?_ ⟨Or.inl rfl, Nat.le_refl _, Nat.le_refl _⟩
      refine ⟨_, g, rfl, rfl, v_C_fr hC (fun k _ _ => x_un (by omega)) rfl, rfl, fun k a b c => x_un c, fun k a b => rfl, ?_, ?_, ?_, fun j a b c => ?_⟩
      · unfold x_up
        rw [x_us, x_un (by decide)]
        exact h2
      · unfold x_up
        rw [x_us, x_us]
        rfl
      · unfold x_up
        rw [x_us, x_un (by decide)]
        exact h6
      · unfold x_up
        rw [x_us, x_un b]
    · rw [if_neg hc] at cl
      rw [if_neg hc]
      refine Exists.intro _ (And.intro cl (And.intro (And.intro (Nat.zero_le _) (Nat.zero_le _)) (fun q h' hpo => ?_)))
      obtain ⟨F, G, rfl, rfl, hF⟩ := hpo
      have e2 : F 102 = f 102 := (hF.2.2 102 (by decide) (by decide)).1
      refine Exists.intro _ (And.intro (c_isPassed_102 (d := d + 3) (b := true) (f := F) (mo := mo) (by rw [e2]; exact h5)) (And.intro (And.intro (Nat.zero_le _) (Nat.zero_le _)) (fun q h' hpo => ?_)))
      obtain ⟨rfl, rfl⟩ := hpo
      refine And.intro ?_ ⟨Or.inr rfl, Nat.le_refl _, Nat.le_refl _⟩
      refine ⟨_, G, rfl, rfl, v_C_fr hF.1 (fun k _ _ => x_un (by omega)) rfl, hF.2.1, fun k a b c => (x_un c).trans (hF.2.2 k a b).1, fun k a b => (hF.2.2 k a b).2, ?_, ?_, ?_, fun j a b c => ?_⟩
      · unfold x_up
        rw [x_us, x_un (by decide), e2]
        exact h2
      · unfold x_up
        rw [x_us, x_us]
        rfl
      · unfold x_up
        rw [x_us, x_un (by decide), e2]
        exact h6
      · unfold x_up
        rw [x_us, x_un b, e2]
  · have ww : (f 40 k).toInt = 17 := by rw [w1, hx]; rfl
    have o1q : v_ok v 1 0 0 := ⟨rfl, rfl⟩
    have h1q : f 22 1 = nI (v 1 0 0) := hC.1 1 0 0 o1q
    have b1q : v 1 0 0 ≤ 5 := (hB.1 1 0 0 o1q).2
    have o2q : v_ok v 2 0 0 := ⟨rfl, rfl⟩
    have h2q : f 22 2 = nI (v 2 0 0) := hC.1 2 0 0 o2q
    have b2q : v 2 0 0 ≤ 5 := (hB.1 2 0 0 o2q).2
    have ea : y_ac s v ch k = (if v 2 0 0 = 0 ∨ v 1 0 0 = 0 then none else s_buy v (y_dr ch / 8 % v 2 0 0) (y_dr (y_dr ch) / 8 % v 1 0 0) 1) := by unfold y_ac; rw [hx]; rfl
    have eb : y_bo s v ch k = y_is (y_ac s v ch k) 1 0 := by
      unfold y_bo
      rw [if_neg (by omega), if_pos hx]
    by_cases hz : v 2 0 0 = 0 ∨ v 1 0 0 = 0
    · have ec : y_cc s v ch k = ch := if_neg (fun q => q.2 hz)
      rw [if_pos hz] at ea
      rw [eb, ea, ec, y_mo_d (by omega), Nat.add_zero]
      refine x_wp_ok ok49 [216] 6 ?_
      refine And.intro (x_ix_nI (by omega) (by omega)) ?_
      rw [nI_clamp (by omega)]
      refine And.intro (And.intro (fun c => absurd (ww.symm.trans c) (by decide)) (And.intro (fun c => absurd (ww.symm.trans c) (by decide)) (And.intro (fun c => absurd (ww.symm.trans c) (by decide)) (And.intro (fun c => absurd (ww.symm.trans c) (by decide)) (And.intro (fun c => absurd (ww.symm.trans c) (by decide)) (And.intro (fun c => absurd (ww.symm.trans c) (by decide)) (And.intro (fun _ => ?_) trivial))))))) (fun c => absurd c (by rw [ww]; decide))
      refine And.intro (fun c => ?_) (fun c => ?_)
      · refine And.intro ?_ ⟨Or.inl rfl, Nat.le_refl _, Nat.le_refl _⟩
        exact ⟨f, g, rfl, rfl, x_LE_of (x_LC_0 hC) (by decide) (by decide) h2 h5 h6⟩
      · have c : ¬ f 22 2 = nI 0 := c
        rw [h2q, nI_eq (by omega) (by decide)] at c
        refine And.intro (fun c2 => ?_) (fun c2 => ?_)
        · have c2 : ¬ f 22 1 = nI 0 := c2
          rw [h1q, nI_eq (by omega) (by decide)] at c2
          omega
        · refine And.intro ?_ ⟨Or.inl rfl, Nat.le_refl _, Nat.le_refl _⟩
          exact ⟨f, g, rfl, rfl, x_LE_of (x_LC_0 hC) (by decide) (by decide) h2 h5 h6⟩
    · have ec : y_cc s v ch k = y_dr (y_dr ch) := if_pos ⟨hx, hz⟩
      rw [if_neg hz] at ea
      rw [eb, ea, ec, y_mo_d (by omega), Nat.add_zero]
      refine x_wp_ok ok49 [216] 6 ?_
      refine And.intro (x_ix_nI (by omega) (by omega)) ?_
      rw [nI_clamp (by omega)]
      refine And.intro (And.intro (fun c => absurd (ww.symm.trans c) (by decide)) (And.intro (fun c => absurd (ww.symm.trans c) (by decide)) (And.intro (fun c => absurd (ww.symm.trans c) (by decide)) (And.intro (fun c => absurd (ww.symm.trans c) (by decide)) (And.intro (fun c => absurd (ww.symm.trans c) (by decide)) (And.intro (fun c => absurd (ww.symm.trans c) (by decide)) (And.intro (fun _ => ?_) trivial))))))) (fun c => absurd c (by rw [ww]; decide))
      refine And.intro (fun c => ?_) (fun c => ?_)
      · have c : f 22 2 = nI 0 := c
        rw [h2q, nI_eq (by omega) (by decide)] at c
        omega
      · refine And.intro (fun c2 => ?_) (fun c2 => ?_)
        · have hd : y_dr ch < 65536 := Nat.mod_lt _ (by decide)
          have c1 := c_draw_102 (d := d + 2) (g := g) (r := r) (t := t) (dm := dm) (n := n) (m := v 2 0 0) h2 hch (by omega) (by omega)
          rw [← h2q] at c1
          refine Exists.intro _ (And.intro c1 (And.intro (And.intro (Nat.zero_le _) (Nat.zero_le _)) (fun q h' hpo => ?_)))
          obtain ⟨rfl, rfl⟩ := hpo
          have c3 := c_draw_102 (d := d + 2) (f := x_up f 102 2 (nI (y_dr ch))) (ch := y_dr ch) (g := g) (r := r) (t := t) (dm := dm) (n := n) (m := v 1 0 0) (by unfold x_up; rw [x_us, x_us]) hd (by omega) (by omega)
          rw [← h1q, ← (show x_up f 102 2 (nI (y_dr ch)) 22 1 = f 22 1 from rfl)] at c3
          refine Exists.intro _ (And.intro c3 (And.intro (And.intro (Nat.zero_le _) (Nat.zero_le _)) (fun q h' hpo => ?_)))
          obtain ⟨rfl, rfl⟩ := hpo
          refine c_buyStep_22_39_102 hC hBn hN (fun c hc => (x_un hc).trans (x_un hc)) ?_ ?_ ?_ (fun j a b c => ?_) (Nat.mod_lt _ (by omega)) (Nat.mod_lt _ (by omega)) (Nat.le_refl 1) (by decide)
          · unfold x_up
            rw [x_us, x_us]
          · unfold x_up
            rw [x_us, x_un (by decide), x_us, x_un (by decide)]
            exact h5
          · unfold x_up
            rw [x_us, x_un (by decide), x_us, x_un (by decide)]
            exact h6
          · unfold x_up
            rw [x_us, x_un a, x_us, x_un a]
        · have c2 : f 22 1 = nI 0 := c2
          rw [h1q, nI_eq (by omega) (by decide)] at c2
          omega
  · exact dflt (by omega) (by omega)
  · exact dflt (by omega) (by omega)
  · exact dflt (by omega) (by omega)
  · exact dflt (by omega) (by omega)
  · exact dflt (by omega) (by omega)
  · exact absurd hx he
theorem c_buyStep_12_39_104 {k p i m ch mo bo : Nat} {F : Nat → Nat → Int32} (hC : v_C f g 12 v) (hBn : v_Bn N v) (hN : N + 998001 < 2 ^ 60) (hF : ∀ c, c ≠ 104 → F c = f c) (h2 : F 104 2 = nI ch) (h5 : F 104 5 = nI mo) (h6 : F 104 6 = nI bo) (hj : ∀ j, j ≠ 2 → j ≠ 5 → j ≠ 6 → F 104 j = f 104 j) (hp : p < v 2 0 0) (hi : i < v 1 0 0) (hm1 : 1 ≤ m) (hm : m ≤ 999) : x_J 49 (d + 4) (x_PI f g 12 104 (x_HR r t) dm n (x_oB (s_buy v p i m)) (x_oV v (s_buy v p i m)) ch mo (bo + y_is (s_buy v p i m) m 0)) 216 [some (.ref 104), some (.ref 12), some (.ref 39), some (.int (nI k)), some (.int (nI p)), some (.int (nI i)), some (.int (nI m)), none, none] [] (F, g, x_HR r t, dm, n) 0 0 := by
  have hB := v_Bn_B hBn (by omega)
  have hC1 : v_C F g 12 v := v_C_fr hC (fun k _ _ => hF k (by omega)) rfl
  refine x_wp_ok ok49 [] 6 ?_
  refine Exists.intro _ (And.intro (c_wayToBuy_12 (d := d) hC1 hB hp hi hm) (And.intro (And.intro (Nat.zero_le _) (Nat.zero_le _)) (fun q h' hpo => ?_)))
  obtain ⟨rfl, G, rfl, hG⟩ := hpo
  have hL := x_LC_G (L := 12) (by decide) hG hC1
  refine Exists.intro _ (And.intro (c_purchase_12 (d := d) hL.1 hBn (by omega) hp hi hm1 hm) (And.intro (And.intro (Nat.zero_le _) (Nat.zero_le _)) (fun q h' hpo => ?_)))
  obtain ⟨F2, G2, rfl, rfl, hF2⟩ := hpo
  have hLC := x_LC_tr hL hF2
  have e2 : F2 104 = F 104 := (hLC.2.2 104 (by decide) (by decide)).1
  have hz : ∀ z, s_buy v p i m = some z → ¬ z.1 = -1 := by
    intro z hz
    unfold s_buy at hz
    split at hz
    · rename_i hcb
      have := (v_cb_at hcb).2.2.2
      cases hz
      exact x_nIm (by omega)
    · cases hz
  refine And.intro (fun c => ?_) (fun c => ?_)
  · have c : ¬ x_oW (-1) (s_buy v p i m) = -1 := c
    have c := fun q => c ((x_oW_m1 hz).mpr q)
    rw [x_oB_of.2 c]
    have e6 : F2 104 6 + nI m = nI (bo + m) := by rw [e2, h6, nI_add]
    have ei : y_is (s_buy v p i m) m 0 = m := by
      cases ho : s_buy v p i m with
      | none => exact absurd ho c
      | some z => rfl
    rw [ei]
    refine And.intro ?_ ⟨Or.inr rfl, Nat.le_refl _, Nat.le_refl _⟩
    refine ⟨_, G2, rfl, rfl, v_C_fr hLC.1 (fun k _ _ => x_un (by omega)) rfl, hLC.2.1, fun k a b c => (x_un c).trans ((hLC.2.2 k a b).1.trans (hF k c)), fun k a b => (hLC.2.2 k a b).2, ?_, ?_, ?_, fun j a b c => ?_⟩
    · unfold x_up
      rw [x_us, x_un (by decide), e2]
      exact h2
    · unfold x_up
      rw [x_us, x_un (by decide), e2]
      exact h5
    · unfold x_up
      rw [x_us, x_us]
      exact e6
    · unfold x_up
      rw [x_us, x_un c, e2]
      exact hj j a b c
  · have c : x_oW (-1) (s_buy v p i m) = -1 := c
    have c := (x_oW_m1 hz).mp c
    rw [x_oB_of.1 c]
    refine And.intro ?_ ⟨Or.inl rfl, Nat.le_refl _, Nat.le_refl _⟩
    have ei : y_is (s_buy v p i m) m 0 = 0 := by rw [c]; rfl
    rw [ei]
    exact ⟨F2, G2, rfl, rfl, hLC.1, hLC.2.1, fun k a b c => ((hLC.2.2 k a b).1.trans (hF k c)), fun k a b => (hLC.2.2 k a b).2, by rw [e2]; exact h2, by rw [e2]; exact h5, by rw [e2]; exact h6, fun j a b c => by rw [e2]; exact hj j a b c⟩
theorem c_isDone_12_39_104 {k ch mo bo : Nat} (hC : v_C f g 12 v) (hBn : v_Bn N v) (hN : N + 998001 < 2 ^ 60) (hSC : x_SC f 39 s NL) (hNL : NL ≤ 60) (hk : k < NL) (hli : y_li s (v 2 0 0) (v 0 0 0) (v 1 0 0) k) (he : s 0 k ≠ 23) (hch : ch < 65536) (h2 : f 104 2 = nI ch) (h5 : f 104 5 = nI mo) (h6 : f 104 6 = nI bo) : x_Ct 49 (d + 4) [.ref 104, .ref 12, .ref 39, .int (nI k)] (f, g, x_HR r t, dm, n) (x_PI f g 12 104 (x_HR r t) dm n (x_oB (y_ac s v ch k)) (x_oV v (y_ac s v ch k)) (y_cc s v ch k) (mo + y_mo s v ch k) (bo + y_bo s v ch k)) := by
  have hB := v_Bn_B hBn (by omega)
  have bK := v_B_K hB
  have bG := v_B_G hB
  have bP := v_B_P hB
  have h24 := y_li_24 hli
  have hw24 := y_wd_24 h24.2
  obtain ⟨w1, w2, w3, w4, w5⟩ := hSC.2 k hk
  have w1 : f 40 k = nI (y_wd (s 0 k)) := w1
  refine x_Ct_w (by decide) (Nat.le_of_ble_eq_true rfl) ok49 [24] 6 ?_
  refine And.intro (x_ix_nI (by omega) (by omega)) ?_
  rw [nI_clamp (by omega)]
  refine And.intro (x_ix_nI (by omega) (by omega)) ?_
  rw [nI_clamp (by omega)]
  refine And.intro (x_ix_nI (by omega) (by omega)) ?_
  rw [nI_clamp (by omega)]
  show x_J 49 (d + 4) (x_PI f g 12 104 (x_HR r t) dm n (x_oB (y_ac s v ch k)) (x_oV v (y_ac s v ch k)) (y_cc s v ch k) (mo + y_mo s v ch k) (bo + y_bo s v ch k)) 24 [some (.ref 104), some (.ref 12), some (.ref 39), some (.int (nI k)), some (.int (f 41 k)), some (.int (f 42 k)), some (.int (f 43 k)), none, none] [] (f, g, x_HR r t, dm, n) 0 0
  have hli0 := hli
  unfold y_li at hli0
  have dflt : 18 ≤ s 0 k → s 0 k ≤ 24 → x_J 49 (d + 4) (x_PI f g 12 104 (x_HR r t) dm n (x_oB (y_ac s v ch k)) (x_oV v (y_ac s v ch k)) (y_cc s v ch k) (mo + y_mo s v ch k) (bo + y_bo s v ch k)) 24 [some (.ref 104), some (.ref 12), some (.ref 39), some (.int (nI k)), some (.int (f 41 k)), some (.int (f 42 k)), some (.int (f 43 k)), none, none] [] (f, g, x_HR r t, dm, n) 0 0 := by
    intro q1 q2
    have ww : 18 ≤ (f 40 k).toInt := by
      rw [w1, nI_toInt (by omega)]
      unfold y_wd
      split <;> omega
    rw [y_ac_d q1, y_cc_d (by omega), y_mo_d (by omega), y_bo_d (by omega) (by omega), Nat.add_zero, Nat.add_zero]
    refine x_wp_ok ok49 [] 6 ?_
    refine And.intro (x_ix_nI (by omega) (by omega)) ?_
    rw [nI_clamp (by omega)]
    refine And.intro (And.intro (fun c => absurd (Int.le_trans ww (Int.le_of_eq c)) (by decide)) (And.intro (fun c => absurd (Int.le_trans ww (Int.le_of_eq c)) (by decide)) (And.intro (fun c => absurd (Int.le_trans ww (Int.le_of_eq c)) (by decide)) (And.intro (fun c => absurd (Int.le_trans ww (Int.le_of_eq c)) (by decide)) (And.intro (fun c => absurd (Int.le_trans ww (Int.le_of_eq c)) (by decide)) (And.intro (fun c => absurd (Int.le_trans ww (Int.le_of_eq c)) (by decide)) (And.intro (fun c => absurd (Int.le_trans ww (Int.le_of_eq c)) (by decide)) trivial))))))) (fun _ => ?_)
    refine And.intro ?_ ⟨Or.inr rfl, Nat.le_refl _, Nat.le_refl _⟩
    exact ⟨f, g, rfl, rfl, x_LE_of (x_LC_0 hC) (by decide) (by decide) h2 h5 h6⟩
  rcases hli0 with ⟨hx | hx | hx, h1, hi, h3, h4⟩ | ⟨hx | hx, h1, hi, h3, h4⟩ | ⟨hx, h3, h4⟩ | (hx | hx) | ⟨hx | ⟨hx, h1⟩ | ⟨hx, h1⟩, h3, h4⟩ | ⟨hx, h3, h4⟩ | hx
  · have hop : s 0 k = 11 := hx
    have ww : (f 40 k).toInt = 11 := by rw [w1, hop]; rfl
    obtain ⟨wp, wi⟩ := w2 (by omega)
    have wp : f 41 k = nI (s 1 k) := wp
    have wi : f 42 k = nI (s 2 k) := wi
    have wm : f 43 k = nI (s 3 k) := w4 (by omega) (by omega) (by omega)
    have ea : y_ac s v ch k = s_pay v (s 1 k) (s 2 k) (s 3 k) := by unfold y_ac; rw [hop]; rfl
    rw [wp, wi, wm, ea, y_cc_d (by omega), y_mo_d (by omega), y_bo_d (by omega) (by omega), Nat.add_zero, Nat.add_zero]
    refine x_wp_ok ok49 [] 6 ?_
    refine And.intro (x_ix_nI (by omega) (by omega)) ?_
    rw [nI_clamp (by omega)]
    refine And.intro (And.intro (fun _ => ?_) (And.intro (fun c => absurd (ww.symm.trans c) (by decide)) (And.intro (fun c => absurd (ww.symm.trans c) (by decide)) (And.intro (fun c => absurd (ww.symm.trans c) (by decide)) (And.intro (fun c => absurd (ww.symm.trans c) (by decide)) (And.intro (fun c => absurd (ww.symm.trans c) (by decide)) (And.intro (fun c => absurd (ww.symm.trans c) (by decide)) trivial))))))) (fun c => absurd c (by rw [ww]; decide))
    refine Exists.intro _ (And.intro (c_printFor_12 (d := d + 2) hC hB h1 hi (by omega)) (And.intro (And.intro (Nat.zero_le _) (Nat.zero_le _)) (fun q h' hpo => ?_)))
    obtain ⟨F, G, rfl, rfl, hF⟩ := x_PO_of hC hpo
    have hz : ∀ z, s_pay v (s 1 k) (s 2 k) (s 3 k) = some z → ¬ z.1 = -1 := by
      intro z hz
      unfold s_pay at hz
      split at hz
      · cases hz
      · cases hz
        exact x_nIm (by omega)
    refine And.intro (fun c => ?_) (fun c => ?_)
    · have c : x_oW (-1) (s_pay v (s 1 k) (s 2 k) (s 3 k)) = -1 := c
      have c := (x_oW_m1 hz).mp c
      rw [x_oB_of.1 c]
      refine And.intro ?_ ⟨Or.inl rfl, Nat.le_refl _, Nat.le_refl _⟩
      exact ⟨F, G, rfl, rfl, x_LE_of hF (by decide) (by decide) h2 h5 h6⟩
    · have c : ¬ x_oW (-1) (s_pay v (s 1 k) (s 2 k) (s 3 k)) = -1 := c
      have c := fun q => c ((x_oW_m1 hz).mpr q)
      rw [x_oB_of.2 c]
      refine And.intro ?_ ⟨Or.inr rfl, Nat.le_refl _, Nat.le_refl _⟩
      exact ⟨F, G, rfl, rfl, x_LE_of hF (by decide) (by decide) h2 h5 h6⟩
  · have hop : s 0 k = 14 := hx
    have ww : (f 40 k).toInt = 14 := by rw [w1, hop]; rfl
    obtain ⟨wp, wi⟩ := w2 (by omega)
    have wp : f 41 k = nI (s 1 k) := wp
    have wi : f 42 k = nI (s 2 k) := wi
    have wm : f 43 k = nI (s 3 k) := w4 (by omega) (by omega) (by omega)
    have ea : y_ac s v ch k = s_tear v (s 1 k) (s 2 k) (s 3 k) := by unfold y_ac; rw [hop]; rfl
    rw [wp, wi, wm, ea, y_cc_d (by omega), y_mo_d (by omega), y_bo_d (by omega) (by omega), Nat.add_zero, Nat.add_zero]
    refine x_wp_ok ok49 [] 6 ?_
    refine And.intro (x_ix_nI (by omega) (by omega)) ?_
    rw [nI_clamp (by omega)]
    refine And.intro (And.intro (fun c => absurd (ww.symm.trans c) (by decide)) (And.intro (fun c => absurd (ww.symm.trans c) (by decide)) (And.intro (fun c => absurd (ww.symm.trans c) (by decide)) (And.intro (fun _ => ?_) (And.intro (fun c => absurd (ww.symm.trans c) (by decide)) (And.intro (fun c => absurd (ww.symm.trans c) (by decide)) (And.intro (fun c => absurd (ww.symm.trans c) (by decide)) trivial))))))) (fun c => absurd c (by rw [ww]; decide))
    refine Exists.intro _ (And.intro (c_tearUp_12 (d := d + 2) hC hB h1 hi (by omega)) (And.intro (And.intro (Nat.zero_le _) (Nat.zero_le _)) (fun q h' hpo => ?_)))
    obtain ⟨F, G, rfl, rfl, hF⟩ := x_PO_of hC hpo
    have hz : ∀ z, s_tear v (s 1 k) (s 2 k) (s 3 k) = some z → ¬ z.1 = -1 := by
      intro z hz
      unfold s_tear at hz
      split at hz
      · cases hz
      · cases hz
        exact x_nIm (by omega)
    refine And.intro (fun c => ?_) (fun c => ?_)
    · have c : x_oW (-1) (s_tear v (s 1 k) (s 2 k) (s 3 k)) = -1 := c
      have c := (x_oW_m1 hz).mp c
      rw [x_oB_of.1 c]
      refine And.intro ?_ ⟨Or.inl rfl, Nat.le_refl _, Nat.le_refl _⟩
      exact ⟨F, G, rfl, rfl, x_LE_of hF (by decide) (by decide) h2 h5 h6⟩
    · have c : ¬ x_oW (-1) (s_tear v (s 1 k) (s 2 k) (s 3 k)) = -1 := c
      have c := fun q => c ((x_oW_m1 hz).mpr q)
      rw [x_oB_of.2 c]
      refine And.intro ?_ ⟨Or.inr rfl, Nat.le_refl _, Nat.le_refl _⟩
      exact ⟨F, G, rfl, rfl, x_LE_of hF (by decide) (by decide) h2 h5 h6⟩
  · have hop : s 0 k = 15 := hx
    have ww : (f 40 k).toInt = 15 := by rw [w1, hop]; rfl
    obtain ⟨wp, wi⟩ := w2 (by omega)
    have wp : f 41 k = nI (s 1 k) := wp
    have wi : f 42 k = nI (s 2 k) := wi
    have wm : f 43 k = nI (s 3 k) := w4 (by omega) (by omega) (by omega)
    have ea : y_ac s v ch k = s_mend v (s 1 k) (s 2 k) (s 3 k) := by unfold y_ac; rw [hop]; rfl
    rw [wp, wi, wm, ea, y_cc_d (by omega), y_mo_d (by omega), y_bo_d (by omega) (by omega), Nat.add_zero, Nat.add_zero]
    refine x_wp_ok ok49 [] 6 ?_
    refine And.intro (x_ix_nI (by omega) (by omega)) ?_
    rw [nI_clamp (by omega)]
    refine And.intro (And.intro (fun c => absurd (ww.symm.trans c) (by decide)) (And.intro (fun c => absurd (ww.symm.trans c) (by decide)) (And.intro (fun c => absurd (ww.symm.trans c) (by decide)) (And.intro (fun c => absurd (ww.symm.trans c) (by decide)) (And.intro (fun _ => ?_) (And.intro (fun c => absurd (ww.symm.trans c) (by decide)) (And.intro (fun c => absurd (ww.symm.trans c) (by decide)) trivial))))))) (fun c => absurd c (by rw [ww]; decide))
    refine Exists.intro _ (And.intro (c_mendTorn_12 (d := d + 2) hC hB h1 hi (by omega)) (And.intro (And.intro (Nat.zero_le _) (Nat.zero_le _)) (fun q h' hpo => ?_)))
    obtain ⟨F, G, rfl, rfl, hF⟩ := x_PO_of hC hpo
    have hz : ∀ z, s_mend v (s 1 k) (s 2 k) (s 3 k) = some z → ¬ z.1 = -1 := by
      intro z hz
      unfold s_mend at hz
      split at hz
      · cases hz
      · cases hz
        have : d_back v (s 1 k) (s 2 k) (s 3 k) ≤ 9999 - v 13 (s 1 k) (s 2 k) := Nat.min_le_right _ _
        exact x_nIm (by omega)
    refine And.intro (fun c => ?_) (fun c => ?_)
    · have c : x_oW (-1) (s_mend v (s 1 k) (s 2 k) (s 3 k)) = -1 := c
      have c := (x_oW_m1 hz).mp c
      rw [x_oB_of.1 c]
      refine And.intro ?_ ⟨Or.inl rfl, Nat.le_refl _, Nat.le_refl _⟩
      exact ⟨F, G, rfl, rfl, x_LE_of hF (by decide) (by decide) h2 h5 h6⟩
    · have c : ¬ x_oW (-1) (s_mend v (s 1 k) (s 2 k) (s 3 k)) = -1 := c
      have c := fun q => c ((x_oW_m1 hz).mpr q)
      rw [x_oB_of.2 c]
      refine And.intro ?_ ⟨Or.inr rfl, Nat.le_refl _, Nat.le_refl _⟩
      exact ⟨F, G, rfl, rfl, x_LE_of hF (by decide) (by decide) h2 h5 h6⟩
  · have ww : (f 40 k).toInt = 12 := by rw [w1, hx]; rfl
    obtain ⟨wp, wi⟩ := w2 (by omega)
    have wp : f 41 k = nI (s 1 k) := wp
    have wi : f 42 k = nI (s 2 k) := wi
    have wm : f 43 k = nI (s 3 k) := w4 (by omega) (by omega) (by omega)
    have ea : y_ac s v ch k = s_buy v (s 1 k) (s 2 k) (s 3 k) := by unfold y_ac; rw [hx]; rfl
    have eb : y_bo s v ch k = y_is (s_buy v (s 1 k) (s 2 k) (s 3 k)) (s 3 k) 0 := by
      unfold y_bo
      rw [if_pos hx, ea]
    rw [wp, wi, wm, ea, y_cc_d (by omega), y_mo_d (by omega), eb, Nat.add_zero]
    refine x_wp_ok ok49 [216] 6 ?_
    refine And.intro (x_ix_nI (by omega) (by omega)) ?_
    rw [nI_clamp (by omega)]
    refine And.intro (And.intro (fun c => absurd (ww.symm.trans c) (by decide)) (And.intro (fun _ => ?_) (And.intro (fun c => absurd (ww.symm.trans c) (by decide)) (And.intro (fun c => absurd (ww.symm.trans c) (by decide)) (And.intro (fun c => absurd (ww.symm.trans c) (by decide)) (And.intro (fun c => absurd (ww.symm.trans c) (by decide)) (And.intro (fun c => absurd (ww.symm.trans c) (by decide)) trivial))))))) (fun c => absurd c (by rw [ww]; decide))
    exact c_buyStep_12_39_104 hC hBn hN (fun _ _ => rfl) h2 h5 h6 (fun _ _ _ _ => rfl) h1 hi h3 (by omega)
  · have hop : s 0 k = 13 := hx
    have ww : (f 40 k).toInt = 13 := by rw [w1, hop]; rfl
    obtain ⟨wp, wi⟩ := w2 (by omega)
    have wp : f 41 k = nI (s 1 k) := wp
    have wi : f 42 k = nI (s 2 k) := wi
    have wm : f 43 k = nI (s 3 k) := w4 (by omega) (by omega) (by omega)
    have ea : y_ac s v ch k = s_sell v (s 1 k) (s 2 k) (s 3 k) := by unfold y_ac; rw [hop]; rfl
    rw [wp, wi, wm, ea, y_cc_d (by omega), y_mo_d (by omega), y_bo_d (by omega) (by omega), Nat.add_zero, Nat.add_zero]
    refine x_wp_ok ok49 [] 6 ?_
    refine And.intro (x_ix_nI (by omega) (by omega)) ?_
    rw [nI_clamp (by omega)]
    refine And.intro (And.intro (fun c => absurd (ww.symm.trans c) (by decide)) (And.intro (fun c => absurd (ww.symm.trans c) (by decide)) (And.intro (fun _ => ?_) (And.intro (fun c => absurd (ww.symm.trans c) (by decide)) (And.intro (fun c => absurd (ww.symm.trans c) (by decide)) (And.intro (fun c => absurd (ww.symm.trans c) (by decide)) (And.intro (fun c => absurd (ww.symm.trans c) (by decide)) trivial))))))) (fun c => absurd c (by rw [ww]; decide))
    refine Exists.intro _ (And.intro (c_takeGoods_12 (d := d) hC hBn (by omega) h1 hi h3 (by omega)) (And.intro (And.intro (Nat.zero_le _) (Nat.zero_le _)) (fun q h' hpo => ?_)))
    obtain ⟨F, G, rfl, rfl, hF⟩ := hpo
    have hz : ∀ z, s_sell v (s 1 k) (s 2 k) (s 3 k) = some z → ¬ z.1 = -1 := by
      intro z hz
      unfold s_sell at hz
      split at hz
      · rename_i hcs
        have := (v_cs_at hcs).2.2.2.1
        cases hz
        exact x_nIm (by omega)
      · cases hz
    refine And.intro (fun c => ?_) (fun c => ?_)
    · have c : x_oW (-1) (s_sell v (s 1 k) (s 2 k) (s 3 k)) = -1 := c
      have c := (x_oW_m1 hz).mp c
      rw [x_oB_of.1 c]
      refine And.intro ?_ ⟨Or.inl rfl, Nat.le_refl _, Nat.le_refl _⟩
      exact ⟨F, G, rfl, rfl, x_LE_of hF (by decide) (by decide) h2 h5 h6⟩
    · have c : ¬ x_oW (-1) (s_sell v (s 1 k) (s 2 k) (s 3 k)) = -1 := c
      have c := fun q => c ((x_oW_m1 hz).mpr q)
      rw [x_oB_of.2 c]
      refine And.intro ?_ ⟨Or.inr rfl, Nat.le_refl _, Nat.le_refl _⟩
      exact ⟨F, G, rfl, rfl, x_LE_of hF (by decide) (by decide) h2 h5 h6⟩
  · have ww : (f 40 k).toInt = 16 := by rw [w1, hx]; rfl
    have wm : f 43 k = nI (s 3 k) := w4 (by omega) (by omega) (by omega)
    have ea : y_ac s v ch k = s_mn v (s 3 k) := by unfold y_ac; rw [hx]; rfl
    have eb : y_mo s v ch k = y_is (s_mn v (s 3 k)) (s 3 k) 0 := by
      unfold y_mo
      rw [if_pos hx, ea]
    rw [wm, ea, y_cc_d (by omega), eb, y_bo_d (by omega) (by omega), Nat.add_zero]
    refine x_wp_ok ok49 [] 6 ?_
    refine And.intro (x_ix_nI (by omega) (by omega)) ?_
    rw [nI_clamp (by omega)]
    refine And.intro (And.intro (fun c => absurd (ww.symm.trans c) (by decide)) (And.intro (fun c => absurd (ww.symm.trans c) (by decide)) (And.intro (fun c => absurd (ww.symm.trans c) (by decide)) (And.intro (fun c => absurd (ww.symm.trans c) (by decide)) (And.intro (fun c => absurd (ww.symm.trans c) (by decide)) (And.intro (fun _ => ?_) (And.intro (fun c => absurd (ww.symm.trans c) (by decide)) trivial))))))) (fun c => absurd c (by rw [ww]; decide))
    have cl := c_passMonths_12 (d := d) (r := r) (t := t) (dm := dm) (n := n) (m := s 3 k) hC hBn hN (by omega)
    unfold s_mn
    by_cases hc : 9999 < v 6 0 0 + s 3 k
    · rw [if_pos hc] at cl
      rw [if_pos hc]
      refine Exists.intro _ (And.intro cl (And.intro (And.intro (Nat.zero_le _) (Nat.zero_le _)) (fun q h' hpo => ?_)))
      obtain ⟨rfl, rfl⟩ := hpo
      refine Exists.intro _ (And.intro (c_isPassed_104 (d := d + 3) (b := false) h5) (And.intro (And.intro (Nat.zero_le _) (Nat.zero_le _)) (fun q h' hpo => ?_)))
      obtain ⟨rfl, rfl⟩ := hpo
      refine And.intro ?_ ⟨Or.inl rfl, Nat.le_refl _, Nat.le_refl _⟩
      refine ⟨_, g, rfl, rfl, v_C_fr hC (fun k _ _ => x_un (by omega)) rfl, rfl, fun k a b c => x_un c, fun k a b => rfl, ?_, ?_, ?_, fun j a b c => ?_⟩
      · unfold x_up
        rw [x_us, x_un (by decide)]
        exact h2
      · unfold x_up
        rw [x_us, x_us]
        rfl
      · unfold x_up
        rw [x_us, x_un (by decide)]
        exact h6
      · unfold x_up
        rw [x_us, x_un b]
    · rw [if_neg hc] at cl
      rw [if_neg hc]
      refine Exists.intro _ (And.intro cl (And.intro (And.intro (Nat.zero_le _) (Nat.zero_le _)) (fun q h' hpo => ?_)))
      obtain ⟨F, G, rfl, rfl, hF⟩ := hpo
      have e2 : F 104 = f 104 := (hF.2.2 104 (by decide) (by decide)).1
      refine Exists.intro _ (And.intro (c_isPassed_104 (d := d + 3) (b := true) (f := F) (mo := mo) (by rw [e2]; exact h5)) (And.intro (And.intro (Nat.zero_le _) (Nat.zero_le _)) (fun q h' hpo => ?_)))
      obtain ⟨rfl, rfl⟩ := hpo
      refine And.intro ?_ ⟨Or.inr rfl, Nat.le_refl _, Nat.le_refl _⟩
      refine ⟨_, G, rfl, rfl, v_C_fr hF.1 (fun k _ _ => x_un (by omega)) rfl, hF.2.1, fun k a b c => (x_un c).trans (hF.2.2 k a b).1, fun k a b => (hF.2.2 k a b).2, ?_, ?_, ?_, fun j a b c => ?_⟩
      · unfold x_up
        rw [x_us, x_un (by decide), e2]
        exact h2
      · unfold x_up
        rw [x_us, x_us]
        rfl
      · unfold x_up
        rw [x_us, x_un (by decide), e2]
        exact h6
      · unfold x_up
        rw [x_us, x_un b, e2]
  · have ww : (f 40 k).toInt = 17 := by rw [w1, hx]; rfl
    have o1q : v_ok v 1 0 0 := ⟨rfl, rfl⟩
    have h1q : f 12 1 = nI (v 1 0 0) := hC.1 1 0 0 o1q
    have b1q : v 1 0 0 ≤ 5 := (hB.1 1 0 0 o1q).2
    have o2q : v_ok v 2 0 0 := ⟨rfl, rfl⟩
    have h2q : f 12 2 = nI (v 2 0 0) := hC.1 2 0 0 o2q
    have b2q : v 2 0 0 ≤ 5 := (hB.1 2 0 0 o2q).2
    have ea : y_ac s v ch k = (if v 2 0 0 = 0 ∨ v 1 0 0 = 0 then none else s_buy v (y_dr ch / 8 % v 2 0 0) (y_dr (y_dr ch) / 8 % v 1 0 0) 1) := by unfold y_ac; rw [hx]; rfl
    have eb : y_bo s v ch k = y_is (y_ac s v ch k) 1 0 := by
      unfold y_bo
      rw [if_neg (by omega), if_pos hx]
    by_cases hz : v 2 0 0 = 0 ∨ v 1 0 0 = 0
    · have ec : y_cc s v ch k = ch := if_neg (fun q => q.2 hz)
      rw [if_pos hz] at ea
      rw [eb, ea, ec, y_mo_d (by omega), Nat.add_zero]
      refine x_wp_ok ok49 [216] 6 ?_
      refine And.intro (x_ix_nI (by omega) (by omega)) ?_
      rw [nI_clamp (by omega)]
      refine And.intro (And.intro (fun c => absurd (ww.symm.trans c) (by decide)) (And.intro (fun c => absurd (ww.symm.trans c) (by decide)) (And.intro (fun c => absurd (ww.symm.trans c) (by decide)) (And.intro (fun c => absurd (ww.symm.trans c) (by decide)) (And.intro (fun c => absurd (ww.symm.trans c) (by decide)) (And.intro (fun c => absurd (ww.symm.trans c) (by decide)) (And.intro (fun _ => ?_) trivial))))))) (fun c => absurd c (by rw [ww]; decide))
      refine And.intro (fun c => ?_) (fun c => ?_)
      · refine And.intro ?_ ⟨Or.inl rfl, Nat.le_refl _, Nat.le_refl _⟩
        exact ⟨f, g, rfl, rfl, x_LE_of (x_LC_0 hC) (by decide) (by decide) h2 h5 h6⟩
      · have c : ¬ f 12 2 = nI 0 := c
        rw [h2q, nI_eq (by omega) (by decide)] at c
        refine And.intro (fun c2 => ?_) (fun c2 => ?_)
        · have c2 : ¬ f 12 1 = nI 0 := c2
          rw [h1q, nI_eq (by omega) (by decide)] at c2
          omega
        · refine And.intro ?_ ⟨Or.inl rfl, Nat.le_refl _, Nat.le_refl _⟩
          exact ⟨f, g, rfl, rfl, x_LE_of (x_LC_0 hC) (by decide) (by decide) h2 h5 h6⟩
    · have ec : y_cc s v ch k = y_dr (y_dr ch) := if_pos ⟨hx, hz⟩
      rw [if_neg hz] at ea
      rw [eb, ea, ec, y_mo_d (by omega), Nat.add_zero]
      refine x_wp_ok ok49 [216] 6 ?_
      refine And.intro (x_ix_nI (by omega) (by omega)) ?_
      rw [nI_clamp (by omega)]
      refine And.intro (And.intro (fun c => absurd (ww.symm.trans c) (by decide)) (And.intro (fun c => absurd (ww.symm.trans c) (by decide)) (And.intro (fun c => absurd (ww.symm.trans c) (by decide)) (And.intro (fun c => absurd (ww.symm.trans c) (by decide)) (And.intro (fun c => absurd (ww.symm.trans c) (by decide)) (And.intro (fun c => absurd (ww.symm.trans c) (by decide)) (And.intro (fun _ => ?_) trivial))))))) (fun c => absurd c (by rw [ww]; decide))
      refine And.intro (fun c => ?_) (fun c => ?_)
      · have c : f 12 2 = nI 0 := c
        rw [h2q, nI_eq (by omega) (by decide)] at c
        omega
      · refine And.intro (fun c2 => ?_) (fun c2 => ?_)
        · have hd : y_dr ch < 65536 := Nat.mod_lt _ (by decide)
          have c1 := c_draw_104 (d := d + 2) (g := g) (r := r) (t := t) (dm := dm) (n := n) (m := v 2 0 0) h2 hch (by omega) (by omega)
          rw [← h2q] at c1
          refine Exists.intro _ (And.intro c1 (And.intro (And.intro (Nat.zero_le _) (Nat.zero_le _)) (fun q h' hpo => ?_)))
          obtain ⟨rfl, rfl⟩ := hpo
          have c3 := c_draw_104 (d := d + 2) (f := x_up f 104 2 (nI (y_dr ch))) (ch := y_dr ch) (g := g) (r := r) (t := t) (dm := dm) (n := n) (m := v 1 0 0) (by unfold x_up; rw [x_us, x_us]) hd (by omega) (by omega)
          rw [← h1q, ← (show x_up f 104 2 (nI (y_dr ch)) 12 1 = f 12 1 from rfl)] at c3
          refine Exists.intro _ (And.intro c3 (And.intro (And.intro (Nat.zero_le _) (Nat.zero_le _)) (fun q h' hpo => ?_)))
          obtain ⟨rfl, rfl⟩ := hpo
          refine c_buyStep_12_39_104 hC hBn hN (fun c hc => (x_un hc).trans (x_un hc)) ?_ ?_ ?_ (fun j a b c => ?_) (Nat.mod_lt _ (by omega)) (Nat.mod_lt _ (by omega)) (Nat.le_refl 1) (by decide)
          · unfold x_up
            rw [x_us, x_us]
          · unfold x_up
            rw [x_us, x_un (by decide), x_us, x_un (by decide)]
            exact h5
          · unfold x_up
            rw [x_us, x_un (by decide), x_us, x_un (by decide)]
            exact h6
          · unfold x_up
            rw [x_us, x_un a, x_us, x_un a]
        · have c2 : f 12 1 = nI 0 := c2
          rw [h1q, nI_eq (by omega) (by decide)] at c2
          omega
  · exact dflt (by omega) (by omega)
  · exact dflt (by omega) (by omega)
  · exact dflt (by omega) (by omega)
  · exact dflt (by omega) (by omega)
  · exact dflt (by omega) (by omega)
  · exact absurd hx he
theorem c_buyStep_22_39_104 {k p i m ch mo bo : Nat} {F : Nat → Nat → Int32} (hC : v_C f g 22 v) (hBn : v_Bn N v) (hN : N + 998001 < 2 ^ 60) (hF : ∀ c, c ≠ 104 → F c = f c) (h2 : F 104 2 = nI ch) (h5 : F 104 5 = nI mo) (h6 : F 104 6 = nI bo) (hj : ∀ j, j ≠ 2 → j ≠ 5 → j ≠ 6 → F 104 j = f 104 j) (hp : p < v 2 0 0) (hi : i < v 1 0 0) (hm1 : 1 ≤ m) (hm : m ≤ 999) : x_J 49 (d + 4) (x_PI f g 22 104 (x_HR r t) dm n (x_oB (s_buy v p i m)) (x_oV v (s_buy v p i m)) ch mo (bo + y_is (s_buy v p i m) m 0)) 216 [some (.ref 104), some (.ref 22), some (.ref 39), some (.int (nI k)), some (.int (nI p)), some (.int (nI i)), some (.int (nI m)), none, none] [] (F, g, x_HR r t, dm, n) 0 0 := by
  have hB := v_Bn_B hBn (by omega)
  have hC1 : v_C F g 22 v := v_C_fr hC (fun k _ _ => hF k (by omega)) rfl
  refine x_wp_ok ok49 [] 6 ?_
  refine Exists.intro _ (And.intro (c_wayToBuy_22 (d := d) hC1 hB hp hi hm) (And.intro (And.intro (Nat.zero_le _) (Nat.zero_le _)) (fun q h' hpo => ?_)))
  obtain ⟨rfl, G, rfl, hG⟩ := hpo
  have hL := x_LC_G (L := 22) (by decide) hG hC1
  refine Exists.intro _ (And.intro (c_purchase_22 (d := d) hL.1 hBn (by omega) hp hi hm1 hm) (And.intro (And.intro (Nat.zero_le _) (Nat.zero_le _)) (fun q h' hpo => ?_)))
  obtain ⟨F2, G2, rfl, rfl, hF2⟩ := hpo
  have hLC := x_LC_tr hL hF2
  have e2 : F2 104 = F 104 := (hLC.2.2 104 (by decide) (by decide)).1
  have hz : ∀ z, s_buy v p i m = some z → ¬ z.1 = -1 := by
    intro z hz
    unfold s_buy at hz
    split at hz
    · rename_i hcb
      have := (v_cb_at hcb).2.2.2
      cases hz
      exact x_nIm (by omega)
    · cases hz
  refine And.intro (fun c => ?_) (fun c => ?_)
  · have c : ¬ x_oW (-1) (s_buy v p i m) = -1 := c
    have c := fun q => c ((x_oW_m1 hz).mpr q)
    rw [x_oB_of.2 c]
    have e6 : F2 104 6 + nI m = nI (bo + m) := by rw [e2, h6, nI_add]
    have ei : y_is (s_buy v p i m) m 0 = m := by
      cases ho : s_buy v p i m with
      | none => exact absurd ho c
      | some z => rfl
    rw [ei]
    refine And.intro ?_ ⟨Or.inr rfl, Nat.le_refl _, Nat.le_refl _⟩
    refine ⟨_, G2, rfl, rfl, v_C_fr hLC.1 (fun k _ _ => x_un (by omega)) rfl, hLC.2.1, fun k a b c => (x_un c).trans ((hLC.2.2 k a b).1.trans (hF k c)), fun k a b => (hLC.2.2 k a b).2, ?_, ?_, ?_, fun j a b c => ?_⟩
    · unfold x_up
      rw [x_us, x_un (by decide), e2]
      exact h2
    · unfold x_up
      rw [x_us, x_un (by decide), e2]
      exact h5
    · unfold x_up
      rw [x_us, x_us]
      exact e6
    · unfold x_up
      rw [x_us, x_un c, e2]
      exact hj j a b c
  · have c : x_oW (-1) (s_buy v p i m) = -1 := c
    have c := (x_oW_m1 hz).mp c
    rw [x_oB_of.1 c]
    refine And.intro ?_ ⟨Or.inl rfl, Nat.le_refl _, Nat.le_refl _⟩
    have ei : y_is (s_buy v p i m) m 0 = 0 := by rw [c]; rfl
    rw [ei]
    exact ⟨F2, G2, rfl, rfl, hLC.1, hLC.2.1, fun k a b c => ((hLC.2.2 k a b).1.trans (hF k c)), fun k a b => (hLC.2.2 k a b).2, by rw [e2]; exact h2, by rw [e2]; exact h5, by rw [e2]; exact h6, fun j a b c => by rw [e2]; exact hj j a b c⟩
theorem c_isDone_22_39_104 {k ch mo bo : Nat} (hC : v_C f g 22 v) (hBn : v_Bn N v) (hN : N + 998001 < 2 ^ 60) (hSC : x_SC f 39 s NL) (hNL : NL ≤ 60) (hk : k < NL) (hli : y_li s (v 2 0 0) (v 0 0 0) (v 1 0 0) k) (he : s 0 k ≠ 23) (hch : ch < 65536) (h2 : f 104 2 = nI ch) (h5 : f 104 5 = nI mo) (h6 : f 104 6 = nI bo) : x_Ct 49 (d + 4) [.ref 104, .ref 22, .ref 39, .int (nI k)] (f, g, x_HR r t, dm, n) (x_PI f g 22 104 (x_HR r t) dm n (x_oB (y_ac s v ch k)) (x_oV v (y_ac s v ch k)) (y_cc s v ch k) (mo + y_mo s v ch k) (bo + y_bo s v ch k)) := by
  have hB := v_Bn_B hBn (by omega)
  have bK := v_B_K hB
  have bG := v_B_G hB
  have bP := v_B_P hB
  have h24 := y_li_24 hli
  have hw24 := y_wd_24 h24.2
  obtain ⟨w1, w2, w3, w4, w5⟩ := hSC.2 k hk
  have w1 : f 40 k = nI (y_wd (s 0 k)) := w1
  refine x_Ct_w (by decide) (Nat.le_of_ble_eq_true rfl) ok49 [24] 6 ?_
  refine And.intro (x_ix_nI (by omega) (by omega)) ?_
  rw [nI_clamp (by omega)]
  refine And.intro (x_ix_nI (by omega) (by omega)) ?_
  rw [nI_clamp (by omega)]
  refine And.intro (x_ix_nI (by omega) (by omega)) ?_
  rw [nI_clamp (by omega)]
  show x_J 49 (d + 4) (x_PI f g 22 104 (x_HR r t) dm n (x_oB (y_ac s v ch k)) (x_oV v (y_ac s v ch k)) (y_cc s v ch k) (mo + y_mo s v ch k) (bo + y_bo s v ch k)) 24 [some (.ref 104), some (.ref 22), some (.ref 39), some (.int (nI k)), some (.int (f 41 k)), some (.int (f 42 k)), some (.int (f 43 k)), none, none] [] (f, g, x_HR r t, dm, n) 0 0
  have hli0 := hli
  unfold y_li at hli0
  have dflt : 18 ≤ s 0 k → s 0 k ≤ 24 → x_J 49 (d + 4) (x_PI f g 22 104 (x_HR r t) dm n (x_oB (y_ac s v ch k)) (x_oV v (y_ac s v ch k)) (y_cc s v ch k) (mo + y_mo s v ch k) (bo + y_bo s v ch k)) 24 [some (.ref 104), some (.ref 22), some (.ref 39), some (.int (nI k)), some (.int (f 41 k)), some (.int (f 42 k)), some (.int (f 43 k)), none, none] [] (f, g, x_HR r t, dm, n) 0 0 := by
    intro q1 q2
    have ww : 18 ≤ (f 40 k).toInt := by
      rw [w1, nI_toInt (by omega)]
      unfold y_wd
      split <;> omega
    rw [y_ac_d q1, y_cc_d (by omega), y_mo_d (by omega), y_bo_d (by omega) (by omega), Nat.add_zero, Nat.add_zero]
    refine x_wp_ok ok49 [] 6 ?_
    refine And.intro (x_ix_nI (by omega) (by omega)) ?_
    rw [nI_clamp (by omega)]
    refine And.intro (And.intro (fun c => absurd (Int.le_trans ww (Int.le_of_eq c)) (by decide)) (And.intro (fun c => absurd (Int.le_trans ww (Int.le_of_eq c)) (by decide)) (And.intro (fun c => absurd (Int.le_trans ww (Int.le_of_eq c)) (by decide)) (And.intro (fun c => absurd (Int.le_trans ww (Int.le_of_eq c)) (by decide)) (And.intro (fun c => absurd (Int.le_trans ww (Int.le_of_eq c)) (by decide)) (And.intro (fun c => absurd (Int.le_trans ww (Int.le_of_eq c)) (by decide)) (And.intro (fun c => absurd (Int.le_trans ww (Int.le_of_eq c)) (by decide)) trivial))))))) (fun _ => ?_)
    refine And.intro ?_ ⟨Or.inr rfl, Nat.le_refl _, Nat.le_refl _⟩
    exact ⟨f, g, rfl, rfl, x_LE_of (x_LC_0 hC) (by decide) (by decide) h2 h5 h6⟩
  rcases hli0 with ⟨hx | hx | hx, h1, hi, h3, h4⟩ | ⟨hx | hx, h1, hi, h3, h4⟩ | ⟨hx, h3, h4⟩ | (hx | hx) | ⟨hx | ⟨hx, h1⟩ | ⟨hx, h1⟩, h3, h4⟩ | ⟨hx, h3, h4⟩ | hx
  · have hop : s 0 k = 11 := hx
    have ww : (f 40 k).toInt = 11 := by rw [w1, hop]; rfl
    obtain ⟨wp, wi⟩ := w2 (by omega)
    have wp : f 41 k = nI (s 1 k) := wp
    have wi : f 42 k = nI (s 2 k) := wi
    have wm : f 43 k = nI (s 3 k) := w4 (by omega) (by omega) (by omega)
    have ea : y_ac s v ch k = s_pay v (s 1 k) (s 2 k) (s 3 k) := by unfold y_ac; rw [hop]; rfl
    rw [wp, wi, wm, ea, y_cc_d (by omega), y_mo_d (by omega), y_bo_d (by omega) (by omega), Nat.add_zero, Nat.add_zero]
    refine x_wp_ok ok49 [] 6 ?_
    refine And.intro (x_ix_nI (by omega) (by omega)) ?_
    rw [nI_clamp (by omega)]
    refine And.intro (And.intro (fun _ => ?_) (And.intro (fun c => absurd (ww.symm.trans c) (by decide)) (And.intro (fun c => absurd (ww.symm.trans c) (by decide)) (And.intro (fun c => absurd (ww.symm.trans c) (by decide)) (And.intro (fun c => absurd (ww.symm.trans c) (by decide)) (And.intro (fun c => absurd (ww.symm.trans c) (by decide)) (And.intro (fun c => absurd (ww.symm.trans c) (by decide)) trivial))))))) (fun c => absurd c (by rw [ww]; decide))
    refine Exists.intro _ (And.intro (c_printFor_22 (d := d + 2) hC hB h1 hi (by omega)) (And.intro (And.intro (Nat.zero_le _) (Nat.zero_le _)) (fun q h' hpo => ?_)))
    obtain ⟨F, G, rfl, rfl, hF⟩ := x_PO_of hC hpo
    have hz : ∀ z, s_pay v (s 1 k) (s 2 k) (s 3 k) = some z → ¬ z.1 = -1 := by
      intro z hz
      unfold s_pay at hz
      split at hz
      · cases hz
      · cases hz
        exact x_nIm (by omega)
    refine And.intro (fun c => ?_) (fun c => ?_)
    · have c : x_oW (-1) (s_pay v (s 1 k) (s 2 k) (s 3 k)) = -1 := c
      have c := (x_oW_m1 hz).mp c
      rw [x_oB_of.1 c]
      refine And.intro ?_ ⟨Or.inl rfl, Nat.le_refl _, Nat.le_refl _⟩
      exact ⟨F, G, rfl, rfl, x_LE_of hF (by decide) (by decide) h2 h5 h6⟩
    · have c : ¬ x_oW (-1) (s_pay v (s 1 k) (s 2 k) (s 3 k)) = -1 := c
      have c := fun q => c ((x_oW_m1 hz).mpr q)
      rw [x_oB_of.2 c]
      refine And.intro ?_ ⟨Or.inr rfl, Nat.le_refl _, Nat.le_refl _⟩
      exact ⟨F, G, rfl, rfl, x_LE_of hF (by decide) (by decide) h2 h5 h6⟩
  · have hop : s 0 k = 14 := hx
    have ww : (f 40 k).toInt = 14 := by rw [w1, hop]; rfl
    obtain ⟨wp, wi⟩ := w2 (by omega)
    have wp : f 41 k = nI (s 1 k) := wp
    have wi : f 42 k = nI (s 2 k) := wi
    have wm : f 43 k = nI (s 3 k) := w4 (by omega) (by omega) (by omega)
    have ea : y_ac s v ch k = s_tear v (s 1 k) (s 2 k) (s 3 k) := by unfold y_ac; rw [hop]; rfl
    rw [wp, wi, wm, ea, y_cc_d (by omega), y_mo_d (by omega), y_bo_d (by omega) (by omega), Nat.add_zero, Nat.add_zero]
    refine x_wp_ok ok49 [] 6 ?_
    refine And.intro (x_ix_nI (by omega) (by omega)) ?_
    rw [nI_clamp (by omega)]
    refine And.intro (And.intro (fun c => absurd (ww.symm.trans c) (by decide)) (And.intro (fun c => absurd (ww.symm.trans c) (by decide)) (And.intro (fun c => absurd (ww.symm.trans c) (by decide)) (And.intro (fun _ => ?_) (And.intro (fun c => absurd (ww.symm.trans c) (by decide)) (And.intro (fun c => absurd (ww.symm.trans c) (by decide)) (And.intro (fun c => absurd (ww.symm.trans c) (by decide)) trivial))))))) (fun c => absurd c (by rw [ww]; decide))
    refine Exists.intro _ (And.intro (c_tearUp_22 (d := d + 2) hC hB h1 hi (by omega)) (And.intro (And.intro (Nat.zero_le _) (Nat.zero_le _)) (fun q h' hpo => ?_)))
    obtain ⟨F, G, rfl, rfl, hF⟩ := x_PO_of hC hpo
    have hz : ∀ z, s_tear v (s 1 k) (s 2 k) (s 3 k) = some z → ¬ z.1 = -1 := by
      intro z hz
      unfold s_tear at hz
      split at hz
      · cases hz
      · cases hz
        exact x_nIm (by omega)
    refine And.intro (fun c => ?_) (fun c => ?_)
    · have c : x_oW (-1) (s_tear v (s 1 k) (s 2 k) (s 3 k)) = -1 := c
      have c := (x_oW_m1 hz).mp c
      rw [x_oB_of.1 c]
      refine And.intro ?_ ⟨Or.inl rfl, Nat.le_refl _, Nat.le_refl _⟩
      exact ⟨F, G, rfl, rfl, x_LE_of hF (by decide) (by decide) h2 h5 h6⟩
    · have c : ¬ x_oW (-1) (s_tear v (s 1 k) (s 2 k) (s 3 k)) = -1 := c
      have c := fun q => c ((x_oW_m1 hz).mpr q)
      rw [x_oB_of.2 c]
      refine And.intro ?_ ⟨Or.inr rfl, Nat.le_refl _, Nat.le_refl _⟩
      exact ⟨F, G, rfl, rfl, x_LE_of hF (by decide) (by decide) h2 h5 h6⟩
  · have hop : s 0 k = 15 := hx
    have ww : (f 40 k).toInt = 15 := by rw [w1, hop]; rfl
    obtain ⟨wp, wi⟩ := w2 (by omega)
    have wp : f 41 k = nI (s 1 k) := wp
    have wi : f 42 k = nI (s 2 k) := wi
    have wm : f 43 k = nI (s 3 k) := w4 (by omega) (by omega) (by omega)
    have ea : y_ac s v ch k = s_mend v (s 1 k) (s 2 k) (s 3 k) := by unfold y_ac; rw [hop]; rfl
    rw [wp, wi, wm, ea, y_cc_d (by omega), y_mo_d (by omega), y_bo_d (by omega) (by omega), Nat.add_zero, Nat.add_zero]
    refine x_wp_ok ok49 [] 6 ?_
    refine And.intro (x_ix_nI (by omega) (by omega)) ?_
    rw [nI_clamp (by omega)]
    refine And.intro (And.intro (fun c => absurd (ww.symm.trans c) (by decide)) (And.intro (fun c => absurd (ww.symm.trans c) (by decide)) (And.intro (fun c => absurd (ww.symm.trans c) (by decide)) (And.intro (fun c => absurd (ww.symm.trans c) (by decide)) (And.intro (fun _ => ?_) (And.intro (fun c => absurd (ww.symm.trans c) (by decide)) (And.intro (fun c => absurd (ww.symm.trans c) (by decide)) trivial))))))) (fun c => absurd c (by rw [ww]; decide))
    refine Exists.intro _ (And.intro (c_mendTorn_22 (d := d + 2) hC hB h1 hi (by omega)) (And.intro (And.intro (Nat.zero_le _) (Nat.zero_le _)) (fun q h' hpo => ?_)))
    obtain ⟨F, G, rfl, rfl, hF⟩ := x_PO_of hC hpo
    have hz : ∀ z, s_mend v (s 1 k) (s 2 k) (s 3 k) = some z → ¬ z.1 = -1 := by
      intro z hz
      unfold s_mend at hz
      split at hz
      · cases hz
      · cases hz
        have : d_back v (s 1 k) (s 2 k) (s 3 k) ≤ 9999 - v 13 (s 1 k) (s 2 k) := Nat.min_le_right _ _
        exact x_nIm (by omega)
    refine And.intro (fun c => ?_) (fun c => ?_)
    · have c : x_oW (-1) (s_mend v (s 1 k) (s 2 k) (s 3 k)) = -1 := c
      have c := (x_oW_m1 hz).mp c
      rw [x_oB_of.1 c]
      refine And.intro ?_ ⟨Or.inl rfl, Nat.le_refl _, Nat.le_refl _⟩
      exact ⟨F, G, rfl, rfl, x_LE_of hF (by decide) (by decide) h2 h5 h6⟩
    · have c : ¬ x_oW (-1) (s_mend v (s 1 k) (s 2 k) (s 3 k)) = -1 := c
      have c := fun q => c ((x_oW_m1 hz).mpr q)
      rw [x_oB_of.2 c]
      refine And.intro ?_ ⟨Or.inr rfl, Nat.le_refl _, Nat.le_refl _⟩
      exact ⟨F, G, rfl, rfl, x_LE_of hF (by decide) (by decide) h2 h5 h6⟩
  · have ww : (f 40 k).toInt = 12 := by rw [w1, hx]; rfl
    obtain ⟨wp, wi⟩ := w2 (by omega)
    have wp : f 41 k = nI (s 1 k) := wp
    have wi : f 42 k = nI (s 2 k) := wi
    have wm : f 43 k = nI (s 3 k) := w4 (by omega) (by omega) (by omega)
    have ea : y_ac s v ch k = s_buy v (s 1 k) (s 2 k) (s 3 k) := by unfold y_ac; rw [hx]; rfl
    have eb : y_bo s v ch k = y_is (s_buy v (s 1 k) (s 2 k) (s 3 k)) (s 3 k) 0 := by
      unfold y_bo
      rw [if_pos hx, ea]
    rw [wp, wi, wm, ea, y_cc_d (by omega), y_mo_d (by omega), eb, Nat.add_zero]
    refine x_wp_ok ok49 [216] 6 ?_
    refine And.intro (x_ix_nI (by omega) (by omega)) ?_
    rw [nI_clamp (by omega)]
    refine And.intro (And.intro (fun c => absurd (ww.symm.trans c) (by decide)) (And.intro (fun _ => ?_) (And.intro (fun c => absurd (ww.symm.trans c) (by decide)) (And.intro (fun c => absurd (ww.symm.trans c) (by decide)) (And.intro (fun c => absurd (ww.symm.trans c) (by decide)) (And.intro (fun c => absurd (ww.symm.trans c) (by decide)) (And.intro (fun c => absurd (ww.symm.trans c) (by decide)) trivial))))))) (fun c => absurd c (by rw [ww]; decide))
    exact c_buyStep_22_39_104 hC hBn hN (fun _ _ => rfl) h2 h5 h6 (fun _ _ _ _ => rfl) h1 hi h3 (by omega)
  · have hop : s 0 k = 13 := hx
    have ww : (f 40 k).toInt = 13 := by rw [w1, hop]; rfl
    obtain ⟨wp, wi⟩ := w2 (by omega)
    have wp : f 41 k = nI (s 1 k) := wp
    have wi : f 42 k = nI (s 2 k) := wi
    have wm : f 43 k = nI (s 3 k) := w4 (by omega) (by omega) (by omega)
    have ea : y_ac s v ch k = s_sell v (s 1 k) (s 2 k) (s 3 k) := by unfold y_ac; rw [hop]; rfl
    rw [wp, wi, wm, ea, y_cc_d (by omega), y_mo_d (by omega), y_bo_d (by omega) (by omega), Nat.add_zero, Nat.add_zero]
    refine x_wp_ok ok49 [] 6 ?_
    refine And.intro (x_ix_nI (by omega) (by omega)) ?_
    rw [nI_clamp (by omega)]
    refine And.intro (And.intro (fun c => absurd (ww.symm.trans c) (by decide)) (And.intro (fun c => absurd (ww.symm.trans c) (by decide)) (And.intro (fun _ => ?_) (And.intro (fun c => absurd (ww.symm.trans c) (by decide)) (And.intro (fun c => absurd (ww.symm.trans c) (by decide)) (And.intro (fun c => absurd (ww.symm.trans c) (by decide)) (And.intro (fun c => absurd (ww.symm.trans c) (by decide)) trivial))))))) (fun c => absurd c (by rw [ww]; decide))
    refine Exists.intro _ (And.intro (c_takeGoods_22 (d := d) hC hBn (by omega) h1 hi h3 (by omega)) (And.intro (And.intro (Nat.zero_le _) (Nat.zero_le _)) (fun q h' hpo => ?_)))
    obtain ⟨F, G, rfl, rfl, hF⟩ := hpo
    have hz : ∀ z, s_sell v (s 1 k) (s 2 k) (s 3 k) = some z → ¬ z.1 = -1 := by
      intro z hz
      unfold s_sell at hz
      split at hz
      · rename_i hcs
        have := (v_cs_at hcs).2.2.2.1
        cases hz
        exact x_nIm (by omega)
      · cases hz
    refine And.intro (fun c => ?_) (fun c => ?_)
    · have c : x_oW (-1) (s_sell v (s 1 k) (s 2 k) (s 3 k)) = -1 := c
      have c := (x_oW_m1 hz).mp c
      rw [x_oB_of.1 c]
      refine And.intro ?_ ⟨Or.inl rfl, Nat.le_refl _, Nat.le_refl _⟩
      exact ⟨F, G, rfl, rfl, x_LE_of hF (by decide) (by decide) h2 h5 h6⟩
    · have c : ¬ x_oW (-1) (s_sell v (s 1 k) (s 2 k) (s 3 k)) = -1 := c
      have c := fun q => c ((x_oW_m1 hz).mpr q)
      rw [x_oB_of.2 c]
      refine And.intro ?_ ⟨Or.inr rfl, Nat.le_refl _, Nat.le_refl _⟩
      exact ⟨F, G, rfl, rfl, x_LE_of hF (by decide) (by decide) h2 h5 h6⟩
  · have ww : (f 40 k).toInt = 16 := by rw [w1, hx]; rfl
    have wm : f 43 k = nI (s 3 k) := w4 (by omega) (by omega) (by omega)
    have ea : y_ac s v ch k = s_mn v (s 3 k) := by unfold y_ac; rw [hx]; rfl
    have eb : y_mo s v ch k = y_is (s_mn v (s 3 k)) (s 3 k) 0 := by
      unfold y_mo
      rw [if_pos hx, ea]
    rw [wm, ea, y_cc_d (by omega), eb, y_bo_d (by omega) (by omega), Nat.add_zero]
    refine x_wp_ok ok49 [] 6 ?_
    refine And.intro (x_ix_nI (by omega) (by omega)) ?_
    rw [nI_clamp (by omega)]
    refine And.intro (And.intro (fun c => absurd (ww.symm.trans c) (by decide)) (And.intro (fun c => absurd (ww.symm.trans c) (by decide)) (And.intro (fun c => absurd (ww.symm.trans c) (by decide)) (And.intro (fun c => absurd (ww.symm.trans c) (by decide)) (And.intro (fun c => absurd (ww.symm.trans c) (by decide)) (And.intro (fun _ => ?_) (And.intro (fun c => absurd (ww.symm.trans c) (by decide)) trivial))))))) (fun c => absurd c (by rw [ww]; decide))
    have cl := c_passMonths_22 (d := d) (r := r) (t := t) (dm := dm) (n := n) (m := s 3 k) hC hBn hN (by omega)
    unfold s_mn
    by_cases hc : 9999 < v 6 0 0 + s 3 k
    · rw [if_pos hc] at cl
      rw [if_pos hc]
      refine Exists.intro _ (And.intro cl (And.intro (And.intro (Nat.zero_le _) (Nat.zero_le _)) (fun q h' hpo => ?_)))
      obtain ⟨rfl, rfl⟩ := hpo
      refine Exists.intro _ (And.intro (c_isPassed_104 (d := d + 3) (b := false) h5) (And.intro (And.intro (Nat.zero_le _) (Nat.zero_le _)) (fun q h' hpo => ?_)))
      obtain ⟨rfl, rfl⟩ := hpo
      refine And.intro ?_ ⟨Or.inl rfl, Nat.le_refl _, Nat.le_refl _⟩
      refine ⟨_, g, rfl, rfl, v_C_fr hC (fun k _ _ => x_un (by omega)) rfl, rfl, fun k a b c => x_un c, fun k a b => rfl, ?_, ?_, ?_, fun j a b c => ?_⟩
      · unfold x_up
        rw [x_us, x_un (by decide)]
        exact h2
      · unfold x_up
        rw [x_us, x_us]
        rfl
      · unfold x_up
        rw [x_us, x_un (by decide)]
        exact h6
      · unfold x_up
        rw [x_us, x_un b]
    · rw [if_neg hc] at cl
      rw [if_neg hc]
      refine Exists.intro _ (And.intro cl (And.intro (And.intro (Nat.zero_le _) (Nat.zero_le _)) (fun q h' hpo => ?_)))
      obtain ⟨F, G, rfl, rfl, hF⟩ := hpo
      have e2 : F 104 = f 104 := (hF.2.2 104 (by decide) (by decide)).1
      refine Exists.intro _ (And.intro (c_isPassed_104 (d := d + 3) (b := true) (f := F) (mo := mo) (by rw [e2]; exact h5)) (And.intro (And.intro (Nat.zero_le _) (Nat.zero_le _)) (fun q h' hpo => ?_)))
      obtain ⟨rfl, rfl⟩ := hpo
      refine And.intro ?_ ⟨Or.inr rfl, Nat.le_refl _, Nat.le_refl _⟩
      refine ⟨_, G, rfl, rfl, v_C_fr hF.1 (fun k _ _ => x_un (by omega)) rfl, hF.2.1, fun k a b c => (x_un c).trans (hF.2.2 k a b).1, fun k a b => (hF.2.2 k a b).2, ?_, ?_, ?_, fun j a b c => ?_⟩
      · unfold x_up
        rw [x_us, x_un (by decide), e2]
        exact h2
      · unfold x_up
        rw [x_us, x_us]
        rfl
      · unfold x_up
        rw [x_us, x_un (by decide), e2]
        exact h6
      · unfold x_up
        rw [x_us, x_un b, e2]
  · have ww : (f 40 k).toInt = 17 := by rw [w1, hx]; rfl
    have o1q : v_ok v 1 0 0 := ⟨rfl, rfl⟩
    have h1q : f 22 1 = nI (v 1 0 0) := hC.1 1 0 0 o1q
    have b1q : v 1 0 0 ≤ 5 := (hB.1 1 0 0 o1q).2
    have o2q : v_ok v 2 0 0 := ⟨rfl, rfl⟩
    have h2q : f 22 2 = nI (v 2 0 0) := hC.1 2 0 0 o2q
    have b2q : v 2 0 0 ≤ 5 := (hB.1 2 0 0 o2q).2
    have ea : y_ac s v ch k = (if v 2 0 0 = 0 ∨ v 1 0 0 = 0 then none else s_buy v (y_dr ch / 8 % v 2 0 0) (y_dr (y_dr ch) / 8 % v 1 0 0) 1) := by unfold y_ac; rw [hx]; rfl
    have eb : y_bo s v ch k = y_is (y_ac s v ch k) 1 0 := by
      unfold y_bo
      rw [if_neg (by omega), if_pos hx]
    by_cases hz : v 2 0 0 = 0 ∨ v 1 0 0 = 0
    · have ec : y_cc s v ch k = ch := if_neg (fun q => q.2 hz)
      rw [if_pos hz] at ea
      rw [eb, ea, ec, y_mo_d (by omega), Nat.add_zero]
      refine x_wp_ok ok49 [216] 6 ?_
      refine And.intro (x_ix_nI (by omega) (by omega)) ?_
      rw [nI_clamp (by omega)]
      refine And.intro (And.intro (fun c => absurd (ww.symm.trans c) (by decide)) (And.intro (fun c => absurd (ww.symm.trans c) (by decide)) (And.intro (fun c => absurd (ww.symm.trans c) (by decide)) (And.intro (fun c => absurd (ww.symm.trans c) (by decide)) (And.intro (fun c => absurd (ww.symm.trans c) (by decide)) (And.intro (fun c => absurd (ww.symm.trans c) (by decide)) (And.intro (fun _ => ?_) trivial))))))) (fun c => absurd c (by rw [ww]; decide))
      refine And.intro (fun c => ?_) (fun c => ?_)
      · refine And.intro ?_ ⟨Or.inl rfl, Nat.le_refl _, Nat.le_refl _⟩
        exact ⟨f, g, rfl, rfl, x_LE_of (x_LC_0 hC) (by decide) (by decide) h2 h5 h6⟩
      · have c : ¬ f 22 2 = nI 0 := c
        rw [h2q, nI_eq (by omega) (by decide)] at c
        refine And.intro (fun c2 => ?_) (fun c2 => ?_)
        · have c2 : ¬ f 22 1 = nI 0 := c2
          rw [h1q, nI_eq (by omega) (by decide)] at c2
          omega
        · refine And.intro ?_ ⟨Or.inl rfl, Nat.le_refl _, Nat.le_refl _⟩
          exact ⟨f, g, rfl, rfl, x_LE_of (x_LC_0 hC) (by decide) (by decide) h2 h5 h6⟩
    · have ec : y_cc s v ch k = y_dr (y_dr ch) := if_pos ⟨hx, hz⟩
      rw [if_neg hz] at ea
      rw [eb, ea, ec, y_mo_d (by omega), Nat.add_zero]
      refine x_wp_ok ok49 [216] 6 ?_
      refine And.intro (x_ix_nI (by omega) (by omega)) ?_
      rw [nI_clamp (by omega)]
      refine And.intro (And.intro (fun c => absurd (ww.symm.trans c) (by decide)) (And.intro (fun c => absurd (ww.symm.trans c) (by decide)) (And.intro (fun c => absurd (ww.symm.trans c) (by decide)) (And.intro (fun c => absurd (ww.symm.trans c) (by decide)) (And.intro (fun c => absurd (ww.symm.trans c) (by decide)) (And.intro (fun c => absurd (ww.symm.trans c) (by decide)) (And.intro (fun _ => ?_) trivial))))))) (fun c => absurd c (by rw [ww]; decide))
      refine And.intro (fun c => ?_) (fun c => ?_)
      · have c : f 22 2 = nI 0 := c
        rw [h2q, nI_eq (by omega) (by decide)] at c
        omega
      · refine And.intro (fun c2 => ?_) (fun c2 => ?_)
        · have hd : y_dr ch < 65536 := Nat.mod_lt _ (by decide)
          have c1 := c_draw_104 (d := d + 2) (g := g) (r := r) (t := t) (dm := dm) (n := n) (m := v 2 0 0) h2 hch (by omega) (by omega)
          rw [← h2q] at c1
          refine Exists.intro _ (And.intro c1 (And.intro (And.intro (Nat.zero_le _) (Nat.zero_le _)) (fun q h' hpo => ?_)))
          obtain ⟨rfl, rfl⟩ := hpo
          have c3 := c_draw_104 (d := d + 2) (f := x_up f 104 2 (nI (y_dr ch))) (ch := y_dr ch) (g := g) (r := r) (t := t) (dm := dm) (n := n) (m := v 1 0 0) (by unfold x_up; rw [x_us, x_us]) hd (by omega) (by omega)
          rw [← h1q, ← (show x_up f 104 2 (nI (y_dr ch)) 22 1 = f 22 1 from rfl)] at c3
          refine Exists.intro _ (And.intro c3 (And.intro (And.intro (Nat.zero_le _) (Nat.zero_le _)) (fun q h' hpo => ?_)))
          obtain ⟨rfl, rfl⟩ := hpo
          refine c_buyStep_22_39_104 hC hBn hN (fun c hc => (x_un hc).trans (x_un hc)) ?_ ?_ ?_ (fun j a b c => ?_) (Nat.mod_lt _ (by omega)) (Nat.mod_lt _ (by omega)) (Nat.le_refl 1) (by decide)
          · unfold x_up
            rw [x_us, x_us]
          · unfold x_up
            rw [x_us, x_un (by decide), x_us, x_un (by decide)]
            exact h5
          · unfold x_up
            rw [x_us, x_un (by decide), x_us, x_un (by decide)]
            exact h6
          · unfold x_up
            rw [x_us, x_un a, x_us, x_un a]
        · have c2 : f 22 1 = nI 0 := c2
          rw [h1q, nI_eq (by omega) (by decide)] at c2
          omega
  · exact dflt (by omega) (by omega)
  · exact dflt (by omega) (by omega)
  · exact dflt (by omega) (by omega)
  · exact dflt (by omega) (by omega)
  · exact dflt (by omega) (by omega)
  · exact absurd hx he
end C59
