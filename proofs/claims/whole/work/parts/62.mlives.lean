/-! a life as the model lives it -/
theorem y_enc_end {s : xR} {NL P K G k b : Nat} {R : Nat → Nat} (hS : y_SV s NL P K G) (hk : k < NL) (he : s 0 k = 23) (q1 : b < y_ek s R k) (q2 : y_ek s R k ≤ s 4 b) (q3 : s 0 b = 22) : b < k ∧ k ≤ s 4 b ∧ (y_ek s R k = k + 1 → b ≠ s 4 k) := by
  obtain ⟨e1, e2, e3⟩ := y_SV_end hS hk he
  have hb0 : y_op s b := Or.inr q3
  have hek : (y_ek s R k = s 4 k + 1) ∨ y_ek s R k = k + 1 := by
    unfold y_ek
    split
    · exact Or.inl rfl
    · exact Or.inr rfl
  have h3 : y_ek s R k = k + 1 → b ≠ s 4 k := by
    intro q z
    rw [q, z, e3] at q2
    omega
  rcases hek with ez | ez
  · rw [ez] at q1 q2
    by_cases hbb : b = s 4 k
    · refine ⟨by omega, by rw [hbb, e3]; exact Nat.le_refl _, h3⟩
    · have hp := hS.2.2.1 b (by omega) hb0
      have := hS.2.2.2.2 b (s 4 k) (by omega) (by omega) hp.2.1 hb0 e2
      exact ⟨by omega, by omega, h3⟩
  · rw [ez] at q1 q2
    have hbk : b ≠ k := fun q => by rw [q] at q3; omega
    exact ⟨by omega, by omega, h3⟩
theorem y_enc_step {s : xR} {NL P K G k b : Nat} {v2 : xV} (hS : y_SV s NL P K G) (hk : k < NL) (q : y_nx s NL v2 k < NL) (q1 : b < y_nx s NL v2 k) (q2 : y_nx s NL v2 k ≤ s 4 b) (q3 : s 0 b = 22) (hbk : b ≠ k) : b < k ∧ k ≤ s 4 b := by
  have hb0 : y_op s b := Or.inr q3
  have hnx : y_nx s NL v2 k = s 4 k + 1 ∧ y_op s k ∨ y_nx s NL v2 k = k + 1 := by
    by_cases z24 : s 0 k = 24
    · rw [show y_nx s NL v2 k = NL from if_pos z24] at q
      exact absurd q (Nat.lt_irrefl _)
    · by_cases zw : y_wn s k = true ∧ y_te s v2 k = false
      · exact Or.inl ⟨(if_neg z24).trans (if_pos zw), Or.inl (of_decide_eq_true zw.1)⟩
      · exact Or.inr ((if_neg z24).trans (if_neg zw))
  rcases hnx with ⟨ez, hop⟩ | ez
  · rw [ez] at q1 q2
    have hp := hS.2.2.1 k hk hop
    have hb4 : b ≠ s 4 k := fun q => by rw [q] at q3; omega
    by_cases hlt : b < k
    · omega
    · have := hS.2.2.2.2 k b (by omega) (by omega) hp.2.1 hop hb0
      omega
  · rw [ez] at q1 q2
    omega
theorem y_1800 (o : Nat) : 1804 + o - 1800 = o + 4 := by omega
section C62
variable {f : Nat → Nat → Int32} {g : Nat → Nat → Int64} {r t : Nat} {dm : List Nat} {n d N : Nat} {v : xV} {s : xR} {NL : Nat}
theorem m_holds {k b : Nat} (hM : v_M (f 501) 0 v) (hB : v_B v) (hSM : x_SM (f 501) s NL) (hNL : NL ≤ 60) (hk : k < NL) (hli : y_li s (v 2 0 0) (v 0 0 0) (v 1 0 0) k) (hw : 18 ≤ s 0 k ∧ s 0 k ≤ 20) (hb : b = 96 + 6 * k) : x_V 319 (d + 3) [.ref 500, .int (nI b)] (f, g, x_HR r t, dm, n) (.int (x_bo (y_te s v k))) (f, g, x_HR r t, dm, n) := by
  obtain ⟨w1, w2, w3, w4, w5⟩ := hSM.2 k hk
  rw [← hb] at w1 w2 w3 w4 w5
  obtain ⟨w6, w7, w8⟩ := w4 hw
  have w1 : f 501 b = nI (1804 + s 0 k) := by
    rw [w1]
    unfold y_om
    rw [if_neg (by omega), if_pos (by omega)]
  have hq : (s 0 k = 19 → s 1 k < v 2 0 0) ∧ (s 0 k = 20 → s 1 k < v 1 0 0) ∧ s 3 k ≤ 9999 ∧ s 5 k ≤ 62 := by
    unfold y_li at hli
    omega
  obtain ⟨q1, q2, q3, q4⟩ := hq
  have bK := v_B_K hB
  have bG := v_B_G hB
  have bP := v_B_P hB
  have o7 : v_ok v 7 0 0 := ⟨rfl, rfl⟩
  have h7 : f 501 7 = nI (v 7 0 0) := v_M_at hM o7
  have b7 : v 7 0 0 ≤ 21000000 := (hB.1 7 0 0 o7).2
  have l7 : 1 ≤ v 7 0 0 := (hB.1 7 0 0 o7).1
  have i1 : nI b + nI 1 = nI (b + 1) := nI_add _ _
  have i2 : nI b + nI 2 = nI (b + 2) := nI_add _ _
  have i5 : nI b + nI 5 = nI (b + 5) := nI_add _ _
  have v2 : f 501 (nI b + nI 2).toNatClampNeg = nI (s 3 k) := by rw [i2, nI_clamp (by omega)]; exact w7
  have v5 : f 501 (nI b + nI 5).toNatClampNeg = nI (s 5 k) := by rw [i5, nI_clamp (by omega)]; exact w8
  have hse : y_se s v k < 2 ^ 31 := by
    unfold y_se
    split
    · omega
    · split
      · rename_i h1
        have := v_ws_le4 hB (c := 13) (Or.inl rfl) (q1 h1)
        omega
      · have : v 11 (s 1 k) 0 ≤ 9999 := (hB.1 11 (s 1 k) 0 (show s 1 k < v 1 0 0 ∧ 0 = 0 from ⟨q2 (by omega), rfl⟩)).2
        omega
  have tail : ∀ x l, x_J 319 (d + 3) (fun q h' => q = some (.int (x_bo (y_te s v k))) ∧ h' = (f, g, x_HR r t, dm, n)) 71 [some (.ref 500), some (.int (nI b)), some (.int x), l] [.int (nI (y_se s v k))] (f, g, x_HR r t, dm, n) 0 0 := by
    intro x l
    refine x_wp_ok ok319 [] 8 ?_
    unfold y_te
    refine And.intro (by show x_ix (nI b + nI 5) 3168; rw [i5]; exact x_ix_nI (by omega) (by omega)) ?_
    refine And.intro (fun c => ?_) (fun c => ?_)
    · have c : ¬ f 501 (nI b + nI 5).toNatClampNeg = nI 60 := c
      rw [v5, nI_eq (by omega) (by decide)] at c
      rw [if_neg c]
      refine And.intro (by show x_ix (nI b + nI 5) 3168; rw [i5]; exact x_ix_nI (by omega) (by omega)) ?_
      refine And.intro (fun c2 => ?_) (fun c2 => ?_)
      · have c2 : ¬ f 501 (nI b + nI 5).toNatClampNeg = nI 62 := c2
        rw [v5, nI_eq (by omega) (by decide)] at c2
        rw [if_neg c2]
        refine And.intro (by show x_ix (nI b + nI 2) 3168; rw [i2]; exact x_ix_nI (by omega) (by omega)) ?_
        refine And.intro (fun c3 => ?_) (fun c3 => ?_)
        · have c3 : ¬ nI (y_se s v k) = f 501 (nI b + nI 2).toNatClampNeg := c3
          rw [v2, nI_eq hse (by omega)] at c3
          rw [decide_eq_false c3]
          exact And.intro ⟨rfl, rfl⟩ ⟨Or.inl rfl, Nat.le_refl _, Nat.le_refl _⟩
        · have c3 : nI (y_se s v k) = f 501 (nI b + nI 2).toNatClampNeg := c3
          rw [v2, nI_eq hse (by omega)] at c3
          rw [decide_eq_true c3]
          exact And.intro ⟨rfl, rfl⟩ ⟨Or.inr rfl, Nat.le_refl _, Nat.le_refl _⟩
      · have c2 : f 501 (nI b + nI 5).toNatClampNeg = nI 62 := c2
        rw [v5, nI_eq (by omega) (by decide)] at c2
        rw [if_pos c2]
        refine And.intro (by show x_ix (nI b + nI 2) 3168; rw [i2]; exact x_ix_nI (by omega) (by omega)) ?_
        refine And.intro (fun c3 => ?_) (fun c3 => ?_)
        · have c3 : nI (y_se s v k) ≤ f 501 (nI b + nI 2).toNatClampNeg := c3
          rw [v2, nI_leI hse (by omega)] at c3
          rw [decide_eq_false (by omega)]
          exact And.intro ⟨rfl, rfl⟩ ⟨Or.inl rfl, Nat.le_refl _, Nat.le_refl _⟩
        · have c3 : ¬ nI (y_se s v k) ≤ f 501 (nI b + nI 2).toNatClampNeg := c3
          rw [v2, nI_leI hse (by omega)] at c3
          rw [decide_eq_true (by omega)]
          exact And.intro ⟨rfl, rfl⟩ ⟨Or.inr rfl, Nat.le_refl _, Nat.le_refl _⟩
    · have c : f 501 (nI b + nI 5).toNatClampNeg = nI 60 := c
      rw [v5, nI_eq (by omega) (by decide)] at c
      rw [if_pos c]
      refine And.intro (by show x_ix (nI b + nI 2) 3168; rw [i2]; exact x_ix_nI (by omega) (by omega)) ?_
      refine And.intro (fun c3 => ?_) (fun c3 => ?_)
      · have c3 : f 501 (nI b + nI 2).toNatClampNeg ≤ nI (y_se s v k) := c3
        rw [v2, nI_leI (by omega) hse] at c3
        rw [decide_eq_false (by omega)]
        exact And.intro ⟨rfl, rfl⟩ ⟨Or.inl rfl, Nat.le_refl _, Nat.le_refl _⟩
      · have c3 : ¬ f 501 (nI b + nI 2).toNatClampNeg ≤ nI (y_se s v k) := c3
        rw [v2, nI_leI (by omega) hse] at c3
        rw [decide_eq_true (by omega)]
        exact And.intro ⟨rfl, rfl⟩ ⟨Or.inr rfl, Nat.le_refl _, Nat.le_refl _⟩
  have main : x_J 319 (d + 3) (fun q h' => q = some (.int (x_bo (y_te s v k))) ∧ h' = (f, g, x_HR r t, dm, n)) 11 [some (.ref 500), some (.int (nI b)), some (.int (nI (s 0 k + 4))), none] [] (f, g, x_HR r t, dm, n) 0 0 := by
    refine x_wp_ok ok319 [71] 6 ?_
    refine And.intro (fun c => ?_) (fun c => ?_)
    · have c : ¬ nI (s 0 k + 4) = nI 22 := c
      rw [nI_eq (by omega) (by decide)] at c
      have w6 := w6 (by omega)
      have v1 : f 501 (nI b + nI 1).toNatClampNeg = nI (s 1 k) := by rw [i1, nI_clamp (by omega)]; exact w6
      refine And.intro (fun c2 => ?_) (fun c2 => ?_)
      · have c2 : ¬ nI (s 0 k + 4) = nI 23 := c2
        rw [nI_eq (by omega) (by decide)] at c2
        have q2 := q2 (by omega)
        have h11 : f 501 (17 + 2 * s 1 k) = nI (v 11 (s 1 k) 0) := v_M_at hM (c := 11) (i := s 1 k) (j := 0) (show s 1 k < v 1 0 0 ∧ 0 = 0 from ⟨q2, rfl⟩)
        refine And.intro (by show x_ix (nI b + nI 1) 3168; rw [i1]; exact x_ix_nI (by omega) (by omega)) ?_
        have cl := m_goodRow (d := d + 2) (p := s 1 k) (h := (f, g, x_HR r t, dm, n))
        rw [← v1] at cl
        refine Exists.intro _ (And.intro cl (And.intro (And.intro (Nat.zero_le _) (Nat.zero_le _)) (fun q h' hpo => ?_)))
        obtain ⟨rfl, rfl⟩ := hpo
        have ig : nI (16 + 2 * s 1 k) + nI 1 = nI (17 + 2 * s 1 k) := (nI_add _ _).trans (by congr 1; omega)
        refine And.intro (by show x_ix (nI (16 + 2 * s 1 k) + nI 1) 3168; rw [ig]; exact x_ix_nI (by omega) (by omega)) ?_
        have e := tail (nI (s 0 k + 4)) none
        rw [show y_se s v k = v 11 (s 1 k) 0 from (if_neg (by omega)).trans (if_neg (by omega)), ← h11, ← nI_clamp (show 17 + 2 * s 1 k < 2 ^ 31 by omega), ← ig] at e
        exact e
      · have c2 : nI (s 0 k + 4) = nI 23 := c2
        rw [nI_eq (by omega) (by decide)] at c2
        refine And.intro (by show x_ix (nI b + nI 1) 3168; rw [i1]; exact x_ix_nI (by omega) (by omega)) ?_
        have cl := m_wholeAt (d := d + 1) (p := s 1 k) (k := 0) (h := (f, g, x_HR r t, dm, n))
        rw [← v1] at cl
        refine Exists.intro _ (And.intro cl (And.intro (And.intro (Nat.zero_le _) (Nat.zero_le _)) (fun q h' hpo => ?_)))
        obtain ⟨rfl, rfl⟩ := hpo
        refine Exists.intro _ (And.intro (m_wholeWorth (d := d + 1) hM hB (q1 (by omega))) (And.intro (And.intro (Nat.zero_le _) (Nat.zero_le _)) (fun q h' hpo => ?_)))
        obtain ⟨rfl, rfl⟩ := hpo
        have e := tail (nI (s 0 k + 4)) none
        rw [show y_se s v k = v_ws v 13 (s 1 k) (v 0 0 0) from (if_neg (by omega)).trans (if_pos (by omega))] at e
        exact e
    · have c : nI (s 0 k + 4) = nI 22 := c
      rw [nI_eq (by omega) (by decide)] at c
      refine And.intro (x_ix_nI (j := 7) (by decide) (by decide)) ?_
      have e := tail (nI (s 0 k + 4)) none
      rw [show y_se s v k = v 7 0 0 from if_pos (by omega), ← h7] at e
      exact e
  refine x_Ct_w (by decide) (Nat.le_of_ble_eq_true rfl) ok319 [11] 6 ?_
  refine And.intro (x_ix_nI (by omega) (by omega)) ?_
  rw [nI_clamp (by omega)]
  have es : f 501 b - nI 1800 = nI (s 0 k + 4) := by
    rw [w1, pk_sub (Nat.le_trans (by decide) (Nat.le_add_right 1804 _)), y_1800]
  rw [← es] at main
  exact main
theorem m_behindEnds {q0 k ch st mi mo bo : Nat} {R : Nat → Nat} {v0 : xV} {le : Bool} (hSM : x_SM (f 501) s NL) (hS : y_SV s NL (v0 2 0 0) (v0 0 0 0) (v0 1 0 0)) (hN : N + 2 ^ 33 < 2 ^ 60) (hin : y_in s NL N q0 v0 (k, R, v, ch, st, mi, mo, bo, le)) (hmu : y_mu s NL (k, R, v, ch, st, mi, mo, bo, le) ≤ 50000) (hR : k < NL → ∀ b, b < k → k ≤ s 4 b → s 0 b = 22 → f 515 b = nI (R b - 1)) : x_Ct 320 d [.ref 500, .int (nI k)] (f, g, x_HR r t, dm, n) (fun q h' => ∃ k' R' F, h' = (F, g, x_HR r t, dm, n) ∧ q = some (.int (nI k')) ∧ (∀ c, c ≠ 515 → F c = f c) ∧ (k' < NL → ∀ b, b < k' → k' ≤ s 4 b → s 0 b = 22 → F 515 b = nI (R' b - 1)) ∧ y_in s NL N q0 v0 (k', R', v, ch, st, mi, mo, bo, le) ∧ y_fin s NL (k', R', v, ch, st, mi, mo, bo, le) = y_fin s NL (k, R, v, ch, st, mi, mo, bo, le) ∧ y_mu s NL (k', R', v, ch, st, mi, mo, bo, le) ≤ y_mu s NL (k, R, v, ch, st, mi, mo, bo, le) ∧ (k' < NL → s 0 k' ≠ 23)) := by
  have hNL := hS.1
  obtain ⟨E, hE⟩ : ∃ E, E = y_fin s NL (k, R, v, ch, st, mi, mo, bo, le) := ⟨_, rfl⟩
  obtain ⟨M, hM⟩ : ∃ M, M = y_mu s NL (k, R, v, ch, st, mi, mo, bo, le) := ⟨_, rfl⟩
  rw [← hE, ← hM]
  obtain ⟨Po, hPo⟩ : ∃ Po : Option Value → xH → Prop, Po = (fun q h' => ∃ k' R' F, h' = (F, g, x_HR r t, dm, n) ∧ q = some (.int (nI k')) ∧ (∀ c, c ≠ 515 → F c = f c) ∧ (k' < NL → ∀ b, b < k' → k' ≤ s 4 b → s 0 b = 22 → F 515 b = nI (R' b - 1)) ∧ y_in s NL N q0 v0 (k', R', v, ch, st, mi, mo, bo, le) ∧ y_fin s NL (k', R', v, ch, st, mi, mo, bo, le) = E ∧ y_mu s NL (k', R', v, ch, st, mi, mo, bo, le) ≤ M ∧ (k' < NL → s 0 k' ≠ 23)) := ⟨_, rfl⟩
  rw [← hPo]
  have loop : ∀ m k1 R1 F x l3 l4, y_mu s NL (k1, R1, v, ch, st, mi, mo, bo, le) ≤ m → m ≤ M → y_in s NL N q0 v0 (k1, R1, v, ch, st, mi, mo, bo, le) → y_fin s NL (k1, R1, v, ch, st, mi, mo, bo, le) = E → (∀ c, c ≠ 515 → F c = f c) → (k1 < NL → ∀ b, b < k1 → k1 ≤ s 4 b → s 0 b = 22 → F 515 b = nI (R1 b - 1)) → x_J 320 d Po 2 [some (.ref 500), some (.int x), some (.int (nI k1)), l3, l4] [] (F, g, x_HR r t, dm, n) 0 0 := by
    intro m
    induction m with
    | zero =>
      intro k1 R1 F x l3 l4 h1 h2 h3 h4 h5 h6
      have hk : ¬ k1 < NL := by
        intro q
        have : y_mu s NL (k1, R1, v, ch, st, mi, mo, bo, le) = 1 + 161 * (300 - st) + y_ps s R1 k1 := if_pos q
        omega
      have hkN : k1 = NL := Nat.le_antisymm h3.1 (by omega)
      have hl : F 501 11 = nI NL := by rw [h5 501 (by decide)]; exact hSM.1
      refine x_wp_ok ok320 [2] 6 ?_
      refine And.intro (x_ix_nI (j := 11) (by decide) (by decide)) ?_
      refine And.intro (fun _ => ?_) (fun c => absurd (show F 501 11 ≤ nI k1 by rw [hl, hkN]; exact nI_le (Nat.le_refl _) (by omega)) c)
      refine And.intro ?_ ⟨trivial, Nat.le_refl _, Nat.le_refl _⟩
      rw [hPo]
      exact ⟨k1, R1, F, rfl, rfl, h5, h6, h3, h4, by omega, fun q => absurd q hk⟩
    | succ m ih =>
      intro k1 R1 F x l3 l4 h1 h2 h3 h4 h5 h6
      have hl : F 501 11 = nI NL := by rw [h5 501 (by decide)]; exact hSM.1
      by_cases hk : k1 < NL
      · have ix : nI 96 + nI 6 * nI k1 = nI (96 + 6 * k1) := by rw [pk_mul, nI_add]
        have ix4 : nI 96 + nI 6 * nI k1 + nI 4 = nI (96 + 6 * k1 + 4) := by rw [ix, nI_add]
        have hw : F 501 (nI 96 + nI 6 * nI k1).toNatClampNeg = nI (y_om (s 0 k1)) := by
          rw [ix, nI_clamp (by omega), h5 501 (by decide)]
          exact (hSM.2 k1 hk).1
        have h24 := y_li_24 (hS.2.1 k1 hk)
        have hw24 := y_om_lt h24.2
        by_cases he : s 0 k1 = 23
        · obtain ⟨e1, e2, e3⟩ := y_SV_end hS hk he
          have eo : y_one s NL (k1, R1, v, ch, st, mi, mo, bo, le) = (y_ek s R1 k1, y_eR s R1 k1, v, ch, st, mi, mo, bo, le) := if_pos he
          have hon := y_in_one hS hN hk h3
          have hfi := (y_fin_one hS hN h3 (by omega) hk).trans h4
          rw [eo] at hon hfi
          obtain ⟨b, hb⟩ : ∃ b, s 4 k1 = b := ⟨_, rfl⟩
          have w4 : F 501 (nI 96 + nI 6 * nI k1 + nI 4).toNatClampNeg = nI b := by
            rw [ix4, nI_clamp (by omega), h5 501 (by decide), (hSM.2 k1 hk).2.2.2.2 (by omega) (by omega), hb]
          rw [hb] at e1 e2 e3
          have ib : nI 96 + nI 6 * nI b = nI (96 + 6 * b) := by rw [pk_mul, nI_add]
          have hwb : F 501 (nI 96 + nI 6 * nI b).toNatClampNeg = nI (y_om (s 0 b)) := by
            rw [ib, nI_clamp (by omega), h5 501 (by decide)]
            exact (hSM.2 b (by omega)).1
          have h24b := y_li_24 (hS.2.1 b (by omega))
          have hw24b := y_om_lt h24b.2
          have hbn := y_op_n e2
          have ex19 : y_om (s 0 b) = 19 ↔ s 0 b = 22 := by
            unfold y_om
            split
            · unfold y_op at e2; omega
            · split <;> omega
          have no : y_ek s R1 k1 = k1 + 1 → ∀ l3, x_J 320 d Po 76 [some (.ref 500), some (.int x), some (.int (nI k1)), some (.int (nI b)), l3] [.int 0] (F, g, x_HR r t, dm, n) 0 0 := by
            intro ek l4
            refine x_wp_ok ok320 [2] 6 ?_
            refine And.intro (x_ix_nI (by omega) (by omega)) ?_
            rw [nI_clamp (by omega)]
            refine And.intro (fun _ => ?_) (fun c => absurd rfl c)
            refine And.intro (x_ix_nI (by omega) (by omega)) ?_
            rw [nI_clamp (by omega)]
            refine And.intro (fun _ => ?_) (fun c => absurd rfl c)
            have e := ih (k1 + 1) (y_eR s R1 k1) (x_up F 515 b (F 515 b - 0)) x (some (.int (nI b))) (some (.int 0)) (by rw [ek] at hon; omega) (by omega) (by rw [ek] at hon; exact hon.1) (by rw [ek] at hfi; exact hfi) (fun c q => (x_up_k q).trans (h5 c q)) (fun q b' q1 q2 q3 => by
              have en := y_enc_end (R := R1) hS hk he (by rw [ek]; exact q1) (by rw [ek]; exact q2) q3
              have hne := en.2.2 ek
              rw [hb] at hne
              rw [x_up_j hne, h6 hk b' en.1 en.2.1 q3]
              congr 2
              unfold y_eR
              split
              · rw [hb, x_un hne]
              · rfl)
            rw [← nI_1] at e
            exact e
          have yes : s 0 b = 22 ∧ 1 < R1 b → ∀ l3, x_J 320 d Po 76 [some (.ref 500), some (.int x), some (.int (nI k1)), some (.int (nI b)), l3] [.int 1] (F, g, x_HR r t, dm, n) 0 0 := by
            intro hj l4
            have ek : y_ek s R1 k1 = b + 1 := by
              unfold y_ek
              rw [hb]
              exact if_pos hj
            have er : y_eR s R1 k1 = va_up R1 b (R1 b - 1) := by
              unfold y_eR
              rw [hb]
              exact if_pos hj.1
            refine x_wp_ok ok320 [2] 6 ?_
            refine And.intro (x_ix_nI (by omega) (by omega)) ?_
            rw [nI_clamp (by omega)]
            refine And.intro (fun c => absurd c (by decide)) (fun _ => ?_)
            refine And.intro (x_ix_nI (by omega) (by omega)) ?_
            rw [nI_clamp (by omega)]
            refine And.intro (fun c => absurd c (by decide)) (fun _ => ?_)
            have e := ih (b + 1) (y_eR s R1 k1) (x_up F 515 b (F 515 b - 1)) x (some (.int (nI b))) (some (.int 1)) (by rw [ek] at hon; omega) (by omega) (by rw [ek] at hon; exact hon.1) (by rw [ek] at hfi; exact hfi) (fun c q => (x_up_k q).trans (h5 c q)) (fun q b' q1 q2 q3 => by
              have en := y_enc_end (R := R1) hS hk he (by rw [ek]; exact q1) (by rw [ek]; exact q2) q3
              rw [er]
              by_cases hbb : b' = b
              · rw [hbb, x_up_s, x_us, h6 hk b e1 (by omega) hj.1, show (1 : Int32) = nI 1 from rfl, pk_sub (by omega)]
              · rw [x_up_j hbb, x_un hbb]
                exact h6 hk b' en.1 en.2.1 q3)
            rw [← nI_1] at e
            exact e
          have tail : x_J 320 d Po 45 [some (.ref 500), some (.int x), some (.int (nI k1)), some (.int (nI b)), l4] [] (F, g, x_HR r t, dm, n) 0 0 := by
            refine x_wp_ok ok320 [2, 76] 6 ?_
            refine And.intro (by show x_ix (nI 96 + nI 6 * nI b) 3168; rw [ib]; exact x_ix_nI (by omega) (by omega)) ?_
            refine And.intro (fun c => ?_) (fun c => ?_)
            · have c : ¬ F 501 (nI 96 + nI 6 * nI b).toNatClampNeg = nI 19 := c
              rw [hwb, nI_eq (by omega) (by decide), ex19] at c
              exact no (by unfold y_ek; rw [hb]; exact if_neg (fun q => c q.1)) l4
            · have c : F 501 (nI 96 + nI 6 * nI b).toNatClampNeg = nI 19 := c
              rw [hwb, nI_eq (by omega) (by decide), ex19] at c
              have hr := h6 hk b e1 (by omega) c
              have hr9 := h3.2.2.2.2.2.2.2.2.2.2 hk b e1 (by omega) c
              refine And.intro (x_ix_nI (by omega) (by omega)) ?_
              rw [nI_clamp (by omega)]
              refine And.intro (fun c2 => ?_) (fun c2 => ?_)
              · have c2 : F 515 b ≤ nI 0 := c2
                rw [hr, nI_leI (by omega) (by decide)] at c2
                exact no (by unfold y_ek; rw [hb]; exact if_neg (by omega)) l4
              · have c2 : ¬ F 515 b ≤ nI 0 := c2
                rw [hr, nI_leI (by omega) (by decide)] at c2
                exact yes ⟨c, by omega⟩ l4
          refine x_wp_ok ok320 [2, 45] 6 ?_
          refine And.intro (x_ix_nI (j := 11) (by decide) (by decide)) ?_
          refine And.intro (fun c => absurd (show F 501 11 ≤ nI k1 from c) (by rw [hl]; exact nI_ge hk (by omega))) (fun _ => ?_)
          refine And.intro (by show x_ix (nI 96 + nI 6 * nI k1) 3168; rw [ix]; exact x_ix_nI (by omega) (by omega)) ?_
          refine And.intro (fun c => ?_) (fun c => ?_)
          · have c : ¬ F 501 (nI 96 + nI 6 * nI k1).toNatClampNeg = nI 20 := c
            rw [hw, he] at c
            exact absurd rfl c
          · refine And.intro (by show x_ix (nI 96 + nI 6 * nI k1 + nI 4) 3168; rw [ix4]; exact x_ix_nI (by omega) (by omega)) ?_
            rw [← w4] at tail
            exact tail
        · refine x_wp_ok ok320 [2] 6 ?_
          refine And.intro (x_ix_nI (j := 11) (by decide) (by decide)) ?_
          refine And.intro (fun c => absurd (show F 501 11 ≤ nI k1 from c) (by rw [hl]; exact nI_ge hk (by omega))) (fun _ => ?_)
          refine And.intro (by show x_ix (nI 96 + nI 6 * nI k1) 3168; rw [ix]; exact x_ix_nI (by omega) (by omega)) ?_
          refine And.intro (fun c => ?_) (fun c => ?_)
          · refine And.intro ?_ ⟨trivial, Nat.le_refl _, Nat.le_refl _⟩
            rw [hPo]
            exact ⟨k1, R1, F, rfl, rfl, h5, h6, h3, h4, by omega, fun _ => he⟩
          · have c : F 501 (nI 96 + nI 6 * nI k1).toNatClampNeg = nI 20 := c
            rw [hw, nI_eq (by omega) (by decide)] at c
            unfold y_om at c
            split at c
            · omega
            · split at c <;> omega
      · exact ih k1 R1 F x l3 l4 (by
          rw [show y_mu s NL (k1, R1, v, ch, st, mi, mo, bo, le) = 0 from if_neg hk]
          exact Nat.zero_le _) (by omega) h3 h4 h5 h6
  refine x_Ct_w (by decide) (Nat.le_of_ble_eq_true rfl) ok320 [2] 6 ?_
  exact loop M k R f (nI k) none none (by omega) (Nat.le_refl _) hin hE.symm (fun _ _ => rfl) hR
end C62
