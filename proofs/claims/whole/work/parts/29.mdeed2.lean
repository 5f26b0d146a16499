theorem x_lmax0min {a b : Nat} (ha : a < 2 ^ 62) (hb : b < 2 ^ 62) : (if (if lN a - lN b < lN 999999999 then lN a - lN b else lN 999999999) < 0 then 0 else (if lN a - lN b < lN 999999999 then lN a - lN b else lN 999999999)) = lN (min 999999999 (a - b)) := by
  by_cases h : b ≤ a
  · rw [lN_sub h, x_lmin (by decide) (by omega), if_neg]
    show ¬ lN _ < lN 0
    rw [pk_lLT (by omega) (by decide)]
    omega
  · have h1 : (lN a - lN b).toInt = (a : Int) - b := by
      rw [Int64.toInt_sub, pk_lT (by omega), pk_lT (by omega), Int.bmod_eq_of_le (by omega) (by omega)]
    have h2 : lN a - lN b < 0 := by
      rw [Int64.lt_iff_toInt_lt, h1]
      show (a : Int) - b < 0
      omega
    have h3 : lN a - lN b < lN 999999999 := by
      rw [Int64.lt_iff_toInt_lt, h1, pk_lT (by decide)]
      omega
    rw [if_pos h3, if_pos h2, show a - b = 0 by omega]
    rfl
section C29
variable {f : Nat → Nat → Int32} {g : Nat → Nat → Int64} {r t : Nat} {ρ : Nat → Nat → Option Nat} {dm : List Nat} {n d N : Nat} {v : xV} {h : xH}
theorem m_give {x y z w : Int32} (hM : v_M (f 501) 0 v) (hB : v_B v) : x_Ct 262 (d + 3) [.ref 500, .int x, .int y, .int z, .int w] (f, g, x_HR r t, dm, n) (x_PM f g (x_HR r t) dm n (sp_give v x y z w)) := by
  have bK := v_B_K hB
  have bG := v_B_G hB
  have bP := v_B_P hB
  have o0 : v_ok v 0 0 0 := ⟨rfl, rfl⟩
  have h0 : f 501 0 = nI (v 0 0 0) := v_M_at hM o0
  have b0 : v 0 0 0 ≤ 4 := (hB.1 0 0 0 o0).2
  have o2 : v_ok v 2 0 0 := ⟨rfl, rfl⟩
  have h2 : f 501 2 = nI (v 2 0 0) := v_M_at hM o2
  have b2 : v 2 0 0 ≤ 5 := (hB.1 2 0 0 o2).2
  unfold sp_give
  refine x_Ct_w (by decide) (Nat.le_of_ble_eq_true rfl) ok262 [] 12 ?_
  refine Exists.intro _ (And.intro (m_isSheet h0 (by omega) h2 (by omega)) (And.intro (And.intro (Nat.zero_le _) (Nat.zero_le _)) (fun q h' hpo => ?_)))
  obtain ⟨rfl, rfl⟩ := hpo
  cases hb : (x_ixb x (v 2 0 0) && x_ixb z (v 0 0 0)) with
  | false =>
    refine And.intro (fun _ => ?_) (fun c => absurd rfl c)
    refine Exists.intro _ (And.intro m_is (And.intro (And.intro (Nat.zero_le _) (Nat.zero_le _)) (fun q h' hpo => ?_)))
    obtain ⟨rfl, rfl⟩ := hpo
    refine And.intro ?_ ⟨Or.inl rfl, Nat.le_refl _, Nat.le_refl _⟩
    exact x_PM_0 hM
  | true =>
    refine And.intro (fun c => absurd c (by decide)) (fun _ => ?_)
    refine Exists.intro _ (And.intro (m_isPerson h2 (by omega)) (And.intro (And.intro (Nat.zero_le _) (Nat.zero_le _)) (fun q h' hpo => ?_)))
    obtain ⟨rfl, rfl⟩ := hpo
    cases hy : x_ixb y (v 2 0 0) with
    | false =>
      refine And.intro (fun _ => ?_) (fun c => absurd rfl c)
      refine Exists.intro _ (And.intro m_is (And.intro (And.intro (Nat.zero_le _) (Nat.zero_le _)) (fun q h' hpo => ?_)))
      obtain ⟨rfl, rfl⟩ := hpo
      refine And.intro ?_ ⟨Or.inl rfl, Nat.le_refl _, Nat.le_refl _⟩
      exact x_PM_0 hM
    | true =>
      refine And.intro (fun c => absurd c (by decide)) (fun _ => ?_)
      refine And.intro (fun cxy => ?_) (fun cxy => ?_)
      · have cxy : x = y := cxy
        rw [decide_eq_false (not_not_intro cxy)]
        refine Exists.intro _ (And.intro m_is (And.intro (And.intro (Nat.zero_le _) (Nat.zero_le _)) (fun q h' hpo => ?_)))
        obtain ⟨rfl, rfl⟩ := hpo
        refine And.intro ?_ ⟨Or.inl rfl, Nat.le_refl _, Nat.le_refl _⟩
        exact x_PM_0 hM
      · have cxy : ¬ x = y := cxy
        rw [decide_eq_true (p := x ≠ y) cxy]
        refine Exists.intro _ (And.intro m_isMany (And.intro (And.intro (Nat.zero_le _) (Nat.zero_le _)) (fun q h' hpo => ?_)))
        obtain ⟨rfl, rfl⟩ := hpo
        cases hw : x_wi w 1 999 with
        | false =>
          refine And.intro (fun c => absurd rfl c) (fun _ => ?_)
          refine Exists.intro _ (And.intro m_is (And.intro (And.intro (Nat.zero_le _) (Nat.zero_le _)) (fun q h' hpo => ?_)))
          obtain ⟨rfl, rfl⟩ := hpo
          refine And.intro ?_ ⟨Or.inl rfl, Nat.le_refl _, Nat.le_refl _⟩
          exact x_PM_0 hM
        | true =>
          refine And.intro (fun _ => ?_) (fun c => absurd c (by decide))
          rw [Bool.and_eq_true] at hb
          obtain ⟨p, hp, rfl⟩ := x_ixb_t hb.1 (by omega)
          obtain ⟨k, hk, rfl⟩ := x_ixb_t hb.2 (by omega)
          obtain ⟨p2, hp2, rfl⟩ := x_ixb_t hy (by omega)
          obtain ⟨m, hm1, hm, rfl⟩ := x_wi_t (lo := 1) (hi := 999) hw (by decide) (by decide)
          have hne : p ≠ p2 := fun e => cxy (by rw [e])
          rw [x_c, x_c, x_c, x_c, nI_clamp (by omega), nI_clamp (by omega), nI_clamp (by omega), nI_clamp (by omega)]
          have o13 : v_ok v 13 p k := show p < v 2 0 0 ∧ k < v 0 0 0 from ⟨by omega, by omega⟩
          have h13 : f 501 (27 + 14 * p + k) = nI (v 13 p k) := v_M_at hM o13
          have b13 : v 13 p k ≤ 9999 := (hB.1 13 p k o13).2
          have o23 : v_ok v 13 p2 k := show p2 < v 2 0 0 ∧ k < v 0 0 0 from ⟨by omega, by omega⟩
          have h23 : f 501 (27 + 14 * p2 + k) = nI (v 13 p2 k) := v_M_at hM o23
          have b23 : v 13 p2 k ≤ 9999 := (hB.1 13 p2 k o23).2
          refine Exists.intro _ (And.intro m_wholeAt (And.intro (And.intro (Nat.zero_le _) (Nat.zero_le _)) (fun q h' hpo => ?_)))
          obtain ⟨rfl, rfl⟩ := hpo
          refine And.intro (x_ix_nI (by omega) (by omega)) ?_
          rw [nI_clamp (by omega)]
          refine And.intro (fun c => ?_) (fun c => ?_)
          · have c : f 501 (27 + 14 * p + k) < nI m := c
            rw [h13, nI_ltI (by omega) (by omega)] at c
            rw [if_pos (by omega)]
            refine Exists.intro _ (And.intro m_is (And.intro (And.intro (Nat.zero_le _) (Nat.zero_le _)) (fun q h' hpo => ?_)))
            obtain ⟨rfl, rfl⟩ := hpo
            refine And.intro ?_ ⟨Or.inl rfl, Nat.le_refl _, Nat.le_refl _⟩
            exact x_PM_0 hM
          · have c : ¬ f 501 (27 + 14 * p + k) < nI m := c
            rw [h13, nI_ltI (by omega) (by omega)] at c
            refine Exists.intro _ (And.intro m_wholeAt (And.intro (And.intro (Nat.zero_le _) (Nat.zero_le _)) (fun q h' hpo => ?_)))
            obtain ⟨rfl, rfl⟩ := hpo
            refine And.intro (x_ix_nI (by omega) (by omega)) ?_
            rw [nI_clamp (by omega)]
            refine And.intro (fun c2 => ?_) (fun c2 => ?_)
            · have c2 : f 501 (27 + 14 * p2 + k) + nI m ≤ nI 9999 := c2
              rw [h23, nI_add, nI_leI (by omega) (by omega)] at c2
              rw [if_neg (by omega)]
              refine Exists.intro _ (And.intro m_wholeAt (And.intro (And.intro (Nat.zero_le _) (Nat.zero_le _)) (fun q h' hpo => ?_)))
              obtain ⟨rfl, rfl⟩ := hpo
              refine And.intro (x_ix_nI (by omega) (by omega)) ?_
              rw [nI_clamp (by omega)]
              refine And.intro (x_ix_nI (by omega) (by omega)) ?_
              rw [nI_clamp (by omega)]
              refine Exists.intro _ (And.intro m_wholeAt (And.intro (And.intro (Nat.zero_le _) (Nat.zero_le _)) (fun q h' hpo => ?_)))
              obtain ⟨rfl, rfl⟩ := hpo
              refine And.intro (x_ix_nI (by omega) (by omega)) ?_
              rw [nI_clamp (by omega)]
              refine And.intro (x_ix_nI (by omega) (by omega)) ?_
              rw [nI_clamp (by omega)]
              refine Exists.intro _ (And.intro m_is (And.intro (And.intro (Nat.zero_le _) (Nat.zero_le _)) (fun q h' hpo => ?_)))
              obtain ⟨rfl, rfl⟩ := hpo
              refine And.intro ?_ ⟨Or.inr rfl, Nat.le_refl _, Nat.le_refl _⟩
              have e := x_ML_set (x_ML_set (x_ML_0 hM) bK bG bP o13 (x := v 13 p k - m) (by decide)) bK bG bP (c := 13) (i := p2) (j := k) (x := v 13 p2 k + m) ((v_ok_set (by decide)).mpr o23) (by decide)
              have e23 : x_up f 501 (27 + 14 * p + k) (f 501 (27 + 14 * p + k) - nI m) 501 (27 + 14 * p2 + k) = nI (v 13 p2 k) := (x_up_j (by omega)).trans h23
              rw [← pk_sub (by omega), ← h13, ← nI_add (v 13 p2 k), ← e23] at e
              exact x_PM_L e
            · have c2 : ¬ f 501 (27 + 14 * p2 + k) + nI m ≤ nI 9999 := c2
              rw [h23, nI_add, nI_leI (by omega) (by omega)] at c2
              rw [if_pos (by omega)]
              refine Exists.intro _ (And.intro m_is (And.intro (And.intro (Nat.zero_le _) (Nat.zero_le _)) (fun q h' hpo => ?_)))
              obtain ⟨rfl, rfl⟩ := hpo
              refine And.intro ?_ ⟨Or.inl rfl, Nat.le_refl _, Nat.le_refl _⟩
              exact x_PM_0 hM
theorem m_rule {x y : Int32} (hM : v_M (f 501) 0 v) (hB : v_B v) : x_Ct 271 (d + 2) [.ref 500, .int x, .int y] (f, g, x_HR r t, dm, n) (x_PM f g (x_HR r t) dm n (sp_rule v x y)) := by
  have bK := v_B_K hB
  have bG := v_B_G hB
  have bP := v_B_P hB
  unfold sp_rule
  refine x_Ct_w (by decide) (Nat.le_of_ble_eq_true rfl) ok271 [] 12 ?_
  refine And.intro (fun c => ?_) (fun c => ?_)
  · have c : x < 0 := c
    rw [x_wi_f1 c]
    refine Exists.intro _ (And.intro m_is (And.intro (And.intro (Nat.zero_le _) (Nat.zero_le _)) (fun q h' hpo => ?_)))
    obtain ⟨rfl, rfl⟩ := hpo
    refine And.intro ?_ ⟨Or.inl rfl, Nat.le_refl _, Nat.le_refl _⟩
    exact x_PM_0 hM
  · have c : ¬ x < 0 := c
    refine And.intro (fun c2 => ?_) (fun c2 => ?_)
    · have c2 : 2 < x := c2
      rw [x_wi_f2 (Int32.not_le.mpr c2)]
      refine Exists.intro _ (And.intro m_is (And.intro (And.intro (Nat.zero_le _) (Nat.zero_le _)) (fun q h' hpo => ?_)))
      obtain ⟨rfl, rfl⟩ := hpo
      refine And.intro ?_ ⟨Or.inl rfl, Nat.le_refl _, Nat.le_refl _⟩
      exact x_PM_0 hM
    · have c2 : ¬ 2 < x := c2
      have hx := x_wi_tt c (Int32.not_lt.mp c2)
      rw [hx]
      obtain ⟨j, hj1, hj, rfl⟩ := x_wi_t (lo := 0) (hi := 2) hx (by decide) (by decide)
      have fin : ∀ m, v_rlo j ≤ m → m ≤ v_rhi j → x_PM f g (x_HR r t) dm n (.int 1, 0, v_set v (3 + j) 0 0 m) (some (.int 1)) (x_up (x_up f 501 (3 + j) (nI m)) 500 2 0, g, x_HR r t, dm, n) := by
        intro m _ _
        obtain rfl | rfl | rfl : j = 0 ∨ j = 1 ∨ j = 2 := by omega
        · exact x_PM_L (x_ML_set (x_ML_0 hM) bK bG bP (c := 3) (i := 0) (j := 0) ⟨rfl, rfl⟩ (by decide))
        · exact x_PM_L (x_ML_set (x_ML_0 hM) bK bG bP (c := 4) (i := 0) (j := 0) ⟨rfl, rfl⟩ (by decide))
        · exact x_PM_L (x_ML_set (x_ML_0 hM) bK bG bP (c := 5) (i := 0) (j := 0) ⟨rfl, rfl⟩ (by decide))
      rw [show x_c (nI j) = j from nI_clamp (by omega)]
      have e1 : ∀ lo hi : Nat, lo < 2 ^ 31 → hi < 2 ^ 31 → x_wl y.toInt64 (lN lo) (lN hi) = x_wi y (nI lo) (nI hi) := fun lo hi h1 h2 => x_wl_wi (by rw [pk_lT (by omega), nI_toInt h1]) (by rw [pk_lT (by omega), nI_toInt h2])
      have hr : v_rlo j ≤ v_rhi j ∧ v_rhi j < 2 ^ 30 := by
        obtain rfl | rfl | rfl : j = 0 ∨ j = 1 ∨ j = 2 := by omega
        · decide
        · decide
        · decide
      obtain hj | hj | hj : j = 0 ∨ j = 1 ∨ j = 2 := by omega
      · subst hj
        have e2 := e1 10 9999 (by decide) (by decide)
        have cw := m_isFrom (d := d + 1) (h := (f, g, x_HR r t, dm, n)) (x := y.toInt64) (lo := lN 10) (hi := lN 9999)
        refine And.intro (fun c => absurd rfl c) (fun _ => ?_)
        refine And.intro (fun c => absurd rfl c) (fun _ => ?_)
        refine Exists.intro _ (And.intro cw (And.intro (And.intro (Nat.zero_le _) (Nat.zero_le _)) (fun q h' hpo => ?_)))
        obtain ⟨rfl, rfl⟩ := hpo
        rw [e2]
        rw [show nI (v_rlo 0) = nI 10 from rfl, show nI (v_rhi 0) = nI 9999 from rfl]
        cases hy : x_wi y (nI 10) (nI 9999) with
        | false =>
          refine And.intro (fun c => absurd rfl c) (fun _ => ?_)
          refine Exists.intro _ (And.intro m_is (And.intro (And.intro (Nat.zero_le _) (Nat.zero_le _)) (fun q h' hpo => ?_)))
          obtain ⟨rfl, rfl⟩ := hpo
          refine And.intro ?_ ⟨Or.inl rfl, Nat.le_refl _, Nat.le_refl _⟩
          exact x_PM_0 hM
        | true =>
          refine And.intro (fun _ => ?_) (fun c => absurd c (by decide))
          obtain ⟨m, hm1, hm, rfl⟩ := x_wi_t (lo := 10) (hi := 9999) hy (by decide) (by decide)
          refine And.intro (x_ix_nI (j := 3 + 0) (by decide) (by decide)) ?_
          refine Exists.intro _ (And.intro m_is (And.intro (And.intro (Nat.zero_le _) (Nat.zero_le _)) (fun q h' hpo => ?_)))
          obtain ⟨rfl, rfl⟩ := hpo
          refine And.intro ?_ ⟨Or.inr rfl, Nat.le_refl _, Nat.le_refl _⟩
          rw [show x_c (nI m) = m from nI_clamp (by omega)]
          exact fin m hm1 hm
      · subst hj
        have e2 := e1 0 50 (by decide) (by decide)
        have cw := m_isFrom (d := d + 1) (h := (f, g, x_HR r t, dm, n)) (x := y.toInt64) (lo := lN 0) (hi := lN 50)
        refine And.intro (fun _ => ?_) (fun c => absurd (show nI 1 = nI 0 from c) (by decide))
        refine And.intro (fun _ => ?_) (fun c => absurd (show nI 1 = nI 0 from c) (by decide))
        refine And.intro (fun c => absurd rfl c) (fun _ => ?_)
        refine Exists.intro _ (And.intro cw (And.intro (And.intro (Nat.zero_le _) (Nat.zero_le _)) (fun q h' hpo => ?_)))
        obtain ⟨rfl, rfl⟩ := hpo
        rw [e2]
        rw [show nI (v_rlo 1) = nI 0 from rfl, show nI (v_rhi 1) = nI 50 from rfl]
        cases hy : x_wi y (nI 0) (nI 50) with
        | false =>
          refine And.intro (fun c => absurd rfl c) (fun _ => ?_)
          refine Exists.intro _ (And.intro m_is (And.intro (And.intro (Nat.zero_le _) (Nat.zero_le _)) (fun q h' hpo => ?_)))
          obtain ⟨rfl, rfl⟩ := hpo
          refine And.intro ?_ ⟨Or.inl rfl, Nat.le_refl _, Nat.le_refl _⟩
          exact x_PM_0 hM
        | true =>
          refine And.intro (fun _ => ?_) (fun c => absurd c (by decide))
          obtain ⟨m, hm1, hm, rfl⟩ := x_wi_t (lo := 0) (hi := 50) hy (by decide) (by decide)
          refine And.intro (x_ix_nI (j := 3 + 1) (by decide) (by decide)) ?_
          refine Exists.intro _ (And.intro m_is (And.intro (And.intro (Nat.zero_le _) (Nat.zero_le _)) (fun q h' hpo => ?_)))
          obtain ⟨rfl, rfl⟩ := hpo
          refine And.intro ?_ ⟨Or.inr rfl, Nat.le_refl _, Nat.le_refl _⟩
          rw [show x_c (nI m) = m from nI_clamp (by omega)]
          exact fin m hm1 hm
      · subst hj
        have e2 := e1 0 999 (by decide) (by decide)
        have cw := m_isFrom (d := d + 1) (h := (f, g, x_HR r t, dm, n)) (x := y.toInt64) (lo := lN 0) (hi := lN 999)
        refine And.intro (fun _ => ?_) (fun c => absurd (show nI 2 = nI 0 from c) (by decide))
        refine And.intro (fun _ => ?_) (fun c => absurd (show nI 2 = nI 0 from c) (by decide))
        refine And.intro (fun _ => ?_) (fun c => absurd (show nI 2 = nI 1 from c) (by decide))
        refine Exists.intro _ (And.intro cw (And.intro (And.intro (Nat.zero_le _) (Nat.zero_le _)) (fun q h' hpo => ?_)))
        obtain ⟨rfl, rfl⟩ := hpo
        rw [e2]
        rw [show nI (v_rlo 2) = nI 0 from rfl, show nI (v_rhi 2) = nI 999 from rfl]
        cases hy : x_wi y (nI 0) (nI 999) with
        | false =>
          refine And.intro (fun c => absurd rfl c) (fun _ => ?_)
          refine Exists.intro _ (And.intro m_is (And.intro (And.intro (Nat.zero_le _) (Nat.zero_le _)) (fun q h' hpo => ?_)))
          obtain ⟨rfl, rfl⟩ := hpo
          refine And.intro ?_ ⟨Or.inl rfl, Nat.le_refl _, Nat.le_refl _⟩
          exact x_PM_0 hM
        | true =>
          refine And.intro (fun _ => ?_) (fun c => absurd c (by decide))
          obtain ⟨m, hm1, hm, rfl⟩ := x_wi_t (lo := 0) (hi := 999) hy (by decide) (by decide)
          refine And.intro (x_ix_nI (j := 3 + 2) (by decide) (by decide)) ?_
          refine Exists.intro _ (And.intro m_is (And.intro (And.intro (Nat.zero_le _) (Nat.zero_le _)) (fun q h' hpo => ?_)))
          obtain ⟨rfl, rfl⟩ := hpo
          refine And.intro ?_ ⟨Or.inr rfl, Nat.le_refl _, Nat.le_refl _⟩
          rw [show x_c (nI m) = m from nI_clamp (by omega)]
          exact fin m hm1 hm
theorem m_bring {x y : Int32} (hM : v_M (f 501) 0 v) (hB : v_B v) : x_Ct 272 (d + 2) [.ref 500, .int x, .int y] (f, g, x_HR r t, dm, n) (x_PM f g (x_HR r t) dm n (sp_bring v x y)) := by
  have bK := v_B_K hB
  have bG := v_B_G hB
  have bP := v_B_P hB
  have o1 : v_ok v 1 0 0 := ⟨rfl, rfl⟩
  have h1 : f 501 1 = nI (v 1 0 0) := v_M_at hM o1
  have b1 : v 1 0 0 ≤ 5 := (hB.1 1 0 0 o1).2
  unfold sp_bring
  refine x_Ct_w (by decide) (Nat.le_of_ble_eq_true rfl) ok272 [] 9 ?_
  refine Exists.intro _ (And.intro (m_isGood h1 (by omega)) (And.intro (And.intro (Nat.zero_le _) (Nat.zero_le _)) (fun q h' hpo => ?_)))
  obtain ⟨rfl, rfl⟩ := hpo
  cases hb : x_ixb x (v 1 0 0) with
  | false =>
    refine And.intro (fun _ => ?_) (fun c => absurd rfl c)
    refine Exists.intro _ (And.intro m_refuse (And.intro (And.intro (Nat.zero_le _) (Nat.zero_le _)) (fun q h' hpo => ?_)))
    obtain ⟨rfl, rfl⟩ := hpo
    refine And.intro ?_ ⟨trivial, Nat.le_refl _, Nat.le_refl _⟩
    exact x_PM_0 hM
  | true =>
    refine And.intro (fun c => absurd c (by decide)) (fun _ => ?_)
    refine Exists.intro _ (And.intro m_isMany (And.intro (And.intro (Nat.zero_le _) (Nat.zero_le _)) (fun q h' hpo => ?_)))
    obtain ⟨rfl, rfl⟩ := hpo
    cases hz : x_wi y 1 999 with
    | false =>
      refine And.intro (fun c => absurd rfl c) (fun _ => ?_)
      refine Exists.intro _ (And.intro m_refuse (And.intro (And.intro (Nat.zero_le _) (Nat.zero_le _)) (fun q h' hpo => ?_)))
      obtain ⟨rfl, rfl⟩ := hpo
      refine And.intro ?_ ⟨trivial, Nat.le_refl _, Nat.le_refl _⟩
      exact x_PM_0 hM
    | true =>
      refine And.intro (fun _ => ?_) (fun c => absurd c (by decide))
      obtain ⟨i, hi, rfl⟩ := x_ixb_t hb (by omega)
      obtain ⟨m, hm1, hm, rfl⟩ := x_wi_t (lo := 1) (hi := 999) hz (by decide) (by decide)
      have o11 : v_ok v 11 i 0 := show i < v 1 0 0 ∧ 0 = 0 from ⟨by omega, rfl⟩
      have h11 : f 501 (17 + 2 * i) = nI (v 11 i 0) := v_M_at hM o11
      have b11 : v 11 i 0 ≤ 9999 := (hB.1 11 i 0 o11).2
      rw [x_c, x_c, nI_clamp (by omega), nI_clamp (by omega)]
      unfold s_bring
      have ei : nI (16 + 2 * i) + Int32.ofInt 1 = nI (17 + 2 * i) := by rw [nI_1o]; congr 1; omega
      refine Exists.intro _ (And.intro m_goodRow (And.intro (And.intro (Nat.zero_le _) (Nat.zero_le _)) (fun q h' hpo => ?_)))
      obtain ⟨rfl, rfl⟩ := hpo
      refine And.intro (by show x_ix (nI (16 + 2 * i) + Int32.ofInt 1) 3168; rw [ei]; exact x_ix_nI (by omega) (by omega)) ?_
      rw [ei, nI_clamp (by omega)]
      refine And.intro (fun c => ?_) (fun c => ?_)
      · have c : f 501 (17 + 2 * i) + nI m ≤ nI 9999 := c
        rw [h11, nI_add, nI_leI (by omega) (by omega)] at c
        rw [if_neg (by omega)]
        refine And.intro (x_ix_nI (by omega) (by omega)) ?_
        rw [nI_clamp (by omega)]
        refine And.intro (x_ix_nI (by omega) (by omega)) ?_
        rw [nI_clamp (by omega)]
        refine And.intro (x_ix_nI (by omega) (by omega)) ?_
        rw [nI_clamp (by omega)]
        refine Exists.intro _ (And.intro m_gives (And.intro (And.intro (Nat.zero_le _) (Nat.zero_le _)) (fun q h' hpo => ?_)))
        obtain ⟨rfl, rfl⟩ := hpo
        refine And.intro ?_ ⟨trivial, Nat.le_refl _, Nat.le_refl _⟩
        have e1 : x_up f 501 (17 + 2 * i) (f 501 (17 + 2 * i) + nI m) 501 (17 + 2 * i) = nI (v 11 i 0 + m) := by rw [x_up_s, h11, nI_add]
        have e := x_ML_set (x_ML_0 hM) bK bG bP o11 (x := v 11 i 0 + m) (by decide)
        rw [← nI_add (v 11 i 0), ← h11] at e
        show x_PM f g (x_HR r t) dm n (.int (nI (v 11 i 0 + m)), 0, v_set v 11 i 0 (v 11 i 0 + m)) (some (.int (x_up f 501 (17 + 2 * i) (f 501 (17 + 2 * i) + nI m) 501 (17 + 2 * i)))) _
        rw [e1]
        exact x_PM_L e
      · have c : ¬ f 501 (17 + 2 * i) + nI m ≤ nI 9999 := c
        rw [h11, nI_add, nI_leI (by omega) (by omega)] at c
        rw [if_pos (by omega)]
        refine Exists.intro _ (And.intro m_refuse (And.intro (And.intro (Nat.zero_le _) (Nat.zero_le _)) (fun q h' hpo => ?_)))
        obtain ⟨rfl, rfl⟩ := hpo
        refine And.intro ?_ ⟨trivial, Nat.le_refl _, Nat.le_refl _⟩
        exact x_PM_0 hM
theorem m_room (hM : v_M (f 501) 0 v) (hB : v_B v) : x_Ct 273 (d + 3) [.ref 500] (f, g, x_HR r t, dm, n) (x_PM f g (x_HR r t) dm n (sp_room v)) := by
  have o7 : v_ok v 7 0 0 := ⟨rfl, rfl⟩
  have h7 : f 501 7 = nI (v 7 0 0) := v_M_at hM o7
  have b7 : v 7 0 0 ≤ 21000000 := (hB.1 7 0 0 o7).2
  have l7 : 1 ≤ v 7 0 0 := (hB.1 7 0 0 o7).1
  have o3 : v_ok v 3 0 0 := ⟨rfl, rfl⟩
  have h3 : f 501 3 = nI (v 3 0 0) := v_M_at hM o3
  have b3 : v 3 0 0 ≤ 9999 := (hB.1 3 0 0 o3).2
  have l3 : 10 ≤ v 3 0 0 := (hB.1 3 0 0 o3).1
  have bo := v_out_le hB
  have bm : v 7 0 0 * v 3 0 0 ≤ 21000000 * 9999 := Nat.mul_le_mul b7 b3
  have bm2 : 1 * 10 ≤ v 7 0 0 * v 3 0 0 := Nat.mul_le_mul l7 l3
  unfold sp_room
  refine x_Ct_w (by decide) (Nat.le_of_ble_eq_true rfl) ok273 [] 2 ?_
  refine And.intro (x_ix_nI (j := 7) (by decide) (by decide)) ?_
  refine And.intro (x_ix_nI (j := 3) (by decide) (by decide)) ?_
  refine Exists.intro _ (And.intro (m_out hM hB) (And.intro (And.intro (Nat.zero_le _) (Nat.zero_le _)) (fun q h' hpo => ?_)))
  obtain ⟨rfl, rfl⟩ := hpo
  have e : (if (if (f 501 7).toInt64 * (f 501 3).toInt64 - lN 1 - (nI (v_out v)).toInt64 < lN 999999999 then (f 501 7).toInt64 * (f 501 3).toInt64 - lN 1 - (nI (v_out v)).toInt64 else lN 999999999) < 0 then 0 else (if (f 501 7).toInt64 * (f 501 3).toInt64 - lN 1 - (nI (v_out v)).toInt64 < lN 999999999 then (f 501 7).toInt64 * (f 501 3).toInt64 - lN 1 - (nI (v_out v)).toInt64 else lN 999999999)).toInt32 = nI (min 999999999 (v 7 0 0 * v 3 0 0 - 1 - v_out v)) := by
    rw [h7, h3, nI_l (by omega), nI_l (by omega), nI_l (by omega), lN_mul, lN_sub (by omega), x_lmax0min (by omega) (by omega), lN_i]
  refine Exists.intro _ (And.intro m_gives (And.intro (And.intro (Nat.zero_le _) (Nat.zero_le _)) (fun q h' hpo => ?_)))
  obtain ⟨rfl, rfl⟩ := hpo
  refine And.intro ?_ ⟨trivial, Nat.le_refl _, Nat.le_refl _⟩
  rw [← e]
  exact x_PM_0 hM
theorem m_levelBy {o : Nat} (hM : v_M (f 501) 0 v) (hB : v_B v) (ho : o < 2 ^ 31) : x_V 238 d [.ref 500, .int (nI o)] (f, g, x_HR r t, dm, n) (.int (nI (1 + o / v 3 0 0))) (f, g, x_HR r t, dm, n) := by
  have o3 : v_ok v 3 0 0 := ⟨rfl, rfl⟩
  have h3 : f 501 3 = nI (v 3 0 0) := v_M_at hM o3
  have b3 : v 3 0 0 ≤ 9999 := (hB.1 3 0 0 o3).2
  have l3 : 10 ≤ v 3 0 0 := (hB.1 3 0 0 o3).1
  refine x_Ct_w (by decide) (Nat.le_of_ble_eq_true rfl) ok238 [] 2 ?_
  refine And.intro (x_ix_nI (j := 3) (by decide) (by decide)) ?_
  refine And.intro (by show ¬ f 501 3 = 0; rw [h3]; exact x_ne0 (by omega) (by omega)) ?_
  exact And.intro ⟨(by show some (Value.int (nI 1 + nI o / f 501 3)) = _; rw [h3, pk_div ho (by omega) (by omega), nI_add]), rfl⟩ ⟨trivial, Nat.le_refl _, Nat.le_refl _⟩
theorem m_levelAfter {m : Nat} (hM : v_M (f 501) 0 v) (hB : v_B v) (hm : m ≤ 999) : x_V 274 (d + 3) [.ref 500, .int (nI m)] (f, g, x_HR r t, dm, n) (.int (nI (if m = 0 then v 7 0 0 else v_lvl v m))) (f, g, x_HR r t, dm, n) := by
  have o7 : v_ok v 7 0 0 := ⟨rfl, rfl⟩
  have h7 : f 501 7 = nI (v 7 0 0) := v_M_at hM o7
  have b7 : v 7 0 0 ≤ 21000000 := (hB.1 7 0 0 o7).2
  have l7 : 1 ≤ v 7 0 0 := (hB.1 7 0 0 o7).1
  have o5 : v_ok v 5 0 0 := ⟨rfl, rfl⟩
  have h5 : f 501 5 = nI (v 5 0 0) := v_M_at hM o5
  have b5 : v 5 0 0 ≤ 999 := (hB.1 5 0 0 o5).2
  have bo := v_out_le hB
  have bm : m * v 5 0 0 ≤ 999 * 999 := Nat.mul_le_mul hm b5
  refine x_Ct_w (by decide) (Nat.le_of_ble_eq_true rfl) ok274 [] 4 ?_
  refine And.intro (fun c => ?_) (fun c => ?_)
  · have c : ¬ nI m = nI 0 := c
    rw [nI_eq (by omega) (by decide)] at c
    rw [if_neg c]
    refine Exists.intro _ (And.intro (m_out hM hB) (And.intro (And.intro (Nat.zero_le _) (Nat.zero_le _)) (fun q h' hpo => ?_)))
    obtain ⟨rfl, rfl⟩ := hpo
    refine And.intro (x_ix_nI (j := 5) (by decide) (by decide)) ?_
    have e := m_levelBy (r := r) (t := t) (dm := dm) (n := n) (d := d + 2) (g := g) (o := v_out v + m * v 5 0 0) hM hB (by omega)
    rw [← nI_add, ← pk_mul, ← h5] at e
    refine Exists.intro _ (And.intro e (And.intro (And.intro (Nat.zero_le _) (Nat.zero_le _)) (fun q h' hpo => ?_)))
    obtain ⟨rfl, rfl⟩ := hpo
    exact And.intro ⟨rfl, rfl⟩ ⟨trivial, Nat.le_refl _, Nat.le_refl _⟩
  · have c : nI m = nI 0 := c
    rw [nI_eq (by omega) (by decide)] at c
    rw [if_pos c]
    refine And.intro (x_ix_nI (j := 7) (by decide) (by decide)) ?_
    exact And.intro ⟨(by show some (Value.int (f 501 7)) = _; rw [h7]), rfl⟩ ⟨trivial, Nat.le_refl _, Nat.le_refl _⟩
theorem m_levelIn {x : Int32} (hM : v_M (f 501) 0 v) (hB : v_B v) : x_Ct 275 (d + 4) [.ref 500, .int x] (f, g, x_HR r t, dm, n) (x_PM f g (x_HR r t) dm n (sp_levelIn v x)) := by
  unfold sp_levelIn
  refine x_Ct_w (by decide) (Nat.le_of_ble_eq_true rfl) ok275 [] 4 ?_
  refine Exists.intro _ (And.intro (m_isFrom (lo := 0) (hi := 999)) (And.intro (And.intro (Nat.zero_le _) (Nat.zero_le _)) (fun q h' hpo => ?_)))
  obtain ⟨rfl, rfl⟩ := hpo
  rw [x_wl_wi (lo' := 0) (hi' := 999) rfl rfl]
  cases hz : x_wi x 0 999 with
  | false =>
    refine And.intro (fun c => absurd rfl c) (fun _ => ?_)
    refine Exists.intro _ (And.intro m_refuse (And.intro (And.intro (Nat.zero_le _) (Nat.zero_le _)) (fun q h' hpo => ?_)))
    obtain ⟨rfl, rfl⟩ := hpo
    refine And.intro ?_ ⟨trivial, Nat.le_refl _, Nat.le_refl _⟩
    exact x_PM_0 hM
  | true =>
    refine And.intro (fun _ => ?_) (fun c => absurd c (by decide))
    obtain ⟨m, hm1, hm, rfl⟩ := x_wi_t (lo := 0) (hi := 999) hz (by decide) (by decide)
    rw [x_c, nI_clamp (by omega)]
    refine Exists.intro _ (And.intro (m_levelAfter hM hB hm) (And.intro (And.intro (Nat.zero_le _) (Nat.zero_le _)) (fun q h' hpo => ?_)))
    obtain ⟨rfl, rfl⟩ := hpo
    refine Exists.intro _ (And.intro m_gives (And.intro (And.intro (Nat.zero_le _) (Nat.zero_le _)) (fun q h' hpo => ?_)))
    obtain ⟨rfl, rfl⟩ := hpo
    refine And.intro ?_ ⟨trivial, Nat.le_refl _, Nat.le_refl _⟩
    exact x_PM_0 hM
theorem m_monthsTill {x : Int32} (hM : v_M (f 501) 0 v) (hB : v_B v) : x_Ct 276 (d + 4) [.ref 500, .int x] (f, g, x_HR r t, dm, n) (x_PM f g (x_HR r t) dm n (sp_monthsTill v x)) := by
  have loop : ∀ m i l, 1 ≤ i → i + m = 1000 → l ≤ 999 → x_J 276 (d + 4) (x_PM f g (x_HR r t) dm n (x_sq 6 true (v_till v l m i) v)) 15 [some (.ref 500), some (.int (nI l)), some (.int (nI i))] [] (f, g, x_HR r t, dm, n) 0 0 := by
    intro m
    induction m with
    | zero =>
      intro i l h1 hi hl
      refine x_wp_ok ok276 [15] 4 ?_
      refine And.intro (fun c => ?_) (fun c => ?_)
      · refine Exists.intro _ (And.intro m_refuse (And.intro (And.intro (Nat.zero_le _) (Nat.zero_le _)) (fun q h' hpo => ?_)))
        obtain ⟨rfl, rfl⟩ := hpo
        refine And.intro ?_ ⟨trivial, Nat.le_refl _, Nat.le_refl _⟩
        exact x_PM_0 hM
      · have c : ¬ nI 999 < nI i := c
        rw [nI_ltI (by decide) (by omega)] at c
        omega
    | succ m ih =>
      intro i l h1 hi hl
      have hv := v_lvl_le hB (m := i) (by omega)
      refine x_wp_ok ok276 [15] 4 ?_
      refine And.intro (fun c => ?_) (fun c => ?_)
      · have c : nI 999 < nI i := c
        rw [nI_ltI (by decide) (by omega)] at c
        omega
      · refine Exists.intro _ (And.intro (m_levelAfter hM hB (show i ≤ 999 by omega)) (And.intro (And.intro (Nat.zero_le _) (Nat.zero_le _)) (fun q h' hpo => ?_)))
        obtain ⟨rfl, rfl⟩ := hpo
        rw [if_neg (show ¬ i = 0 by omega)]
        rw [show v_till v l (m + 1) i = if l < v_lvl v i then some (nI i, v) else v_till v l m (i + 1) from rfl]
        refine And.intro (fun c => ?_) (fun c => ?_)
        · have c : nI (v_lvl v i) ≤ nI l := c
          rw [nI_leI (by omega) (by omega)] at c
          rw [if_neg (by omega)]
          have e := ih (i + 1) l (by omega) (by omega) hl
          rw [nI_succ] at e
          exact e
        · have c : ¬ nI (v_lvl v i) ≤ nI l := c
          rw [nI_leI (by omega) (by omega)] at c
          rw [if_pos (by omega)]
          refine Exists.intro _ (And.intro m_gives (And.intro (And.intro (Nat.zero_le _) (Nat.zero_le _)) (fun q h' hpo => ?_)))
          obtain ⟨rfl, rfl⟩ := hpo
          refine And.intro ?_ ⟨trivial, Nat.le_refl _, Nat.le_refl _⟩
          exact x_PM_0 hM
  unfold sp_monthsTill
  refine x_Ct_w (by decide) (Nat.le_of_ble_eq_true rfl) ok276 [15] 4 ?_
  refine Exists.intro _ (And.intro m_isMany (And.intro (And.intro (Nat.zero_le _) (Nat.zero_le _)) (fun q h' hpo => ?_)))
  obtain ⟨rfl, rfl⟩ := hpo
  cases hz : x_wi x 1 999 with
  | false =>
    refine And.intro (fun c => absurd rfl c) (fun _ => ?_)
    refine Exists.intro _ (And.intro m_refuse (And.intro (And.intro (Nat.zero_le _) (Nat.zero_le _)) (fun q h' hpo => ?_)))
    obtain ⟨rfl, rfl⟩ := hpo
    refine And.intro ?_ ⟨trivial, Nat.le_refl _, Nat.le_refl _⟩
    exact x_PM_0 hM
  | true =>
    refine And.intro (fun _ => ?_) (fun c => absurd c (by decide))
    obtain ⟨l, hl1, hl, rfl⟩ := x_wi_t (lo := 1) (hi := 999) hz (by decide) (by decide)
    rw [x_c, nI_clamp (by omega)]
    exact loop 999 1 l (by decide) (by decide) hl
theorem m_keptOf {x : Int32} (hM : v_M (f 501) 0 v) (hB : v_B v) : x_Ct 292 (d + 2) [.ref 500, .int x] (f, g, x_HR r t, dm, n) (x_PM f g (x_HR r t) dm n (sp_keptOf v x)) := by
  unfold sp_keptOf
  refine x_Ct_w (by decide) (Nat.le_of_ble_eq_true rfl) ok292 [] 4 ?_
  refine Exists.intro _ (And.intro (m_isFrom (lo := 1) (hi := 9999)) (And.intro (And.intro (Nat.zero_le _) (Nat.zero_le _)) (fun q h' hpo => ?_)))
  obtain ⟨rfl, rfl⟩ := hpo
  rw [x_wl_wi (lo' := 1) (hi' := 9999) rfl rfl]
  cases hz : x_wi x 1 9999 with
  | false =>
    refine And.intro (fun c => absurd rfl c) (fun _ => ?_)
    refine Exists.intro _ (And.intro m_refuse (And.intro (And.intro (Nat.zero_le _) (Nat.zero_le _)) (fun q h' hpo => ?_)))
    obtain ⟨rfl, rfl⟩ := hpo
    refine And.intro ?_ ⟨trivial, Nat.le_refl _, Nat.le_refl _⟩
    exact x_PM_0 hM
  | true =>
    refine And.intro (fun _ => ?_) (fun c => absurd c (by decide))
    obtain ⟨m, hm1, hm, rfl⟩ := x_wi_t (lo := 1) (hi := 9999) hz (by decide) (by decide)
    rw [x_c, nI_clamp (by omega)]
    refine Exists.intro _ (And.intro (m_keptBy hM hB hm) (And.intro (And.intro (Nat.zero_le _) (Nat.zero_le _)) (fun q h' hpo => ?_)))
    obtain ⟨rfl, rfl⟩ := hpo
    refine Exists.intro _ (And.intro m_gives (And.intro (And.intro (Nat.zero_le _) (Nat.zero_le _)) (fun q h' hpo => ?_)))
    obtain ⟨rfl, rfl⟩ := hpo
    refine And.intro ?_ ⟨trivial, Nat.le_refl _, Nat.le_refl _⟩
    exact x_PM_0 hM
theorem m_allOf {p k : Nat} (hM : v_M (f 501) 0 v) (hB : v_B v) (hp : p < v 2 0 0) (hk : k < v 0 0 0) : x_V 265 (d + 2) [.ref 500, .int (nI p), .int (nI k)] (f, g, x_HR r t, dm, n) (.int (nI (v 13 p k + v 14 p k))) (f, g, x_HR r t, dm, n) := by
  have bK := v_B_K hB
  have bG := v_B_G hB
  have bP := v_B_P hB
  have o13 : v_ok v 13 p k := show p < v 2 0 0 ∧ k < v 0 0 0 from ⟨by omega, by omega⟩
  have h13 : f 501 (27 + 14 * p + k) = nI (v 13 p k) := v_M_at hM o13
  have b13 : v 13 p k ≤ 9999 := (hB.1 13 p k o13).2
  have o14 : v_ok v 14 p k := show p < v 2 0 0 ∧ k < v 0 0 0 from ⟨by omega, by omega⟩
  have h14 : f 501 (31 + 14 * p + k) = nI (v 14 p k) := v_M_at hM o14
  have b14 : v 14 p k ≤ 9999 := (hB.1 14 p k o14).2
  refine x_Ct_w (by decide) (Nat.le_of_ble_eq_true rfl) ok265 [] 2 ?_
  refine Exists.intro _ (And.intro m_wholeAt (And.intro (And.intro (Nat.zero_le _) (Nat.zero_le _)) (fun q h' hpo => ?_)))
  obtain ⟨rfl, rfl⟩ := hpo
  refine And.intro (x_ix_nI (by omega) (by omega)) ?_
  rw [nI_clamp (by omega)]
  refine Exists.intro _ (And.intro m_tornAt (And.intro (And.intro (Nat.zero_le _) (Nat.zero_le _)) (fun q h' hpo => ?_)))
  obtain ⟨rfl, rfl⟩ := hpo
  refine And.intro (x_ix_nI (by omega) (by omega)) ?_
  rw [nI_clamp (by omega)]
  exact And.intro ⟨(by show some (Value.int (f 501 (27 + 14 * p + k) + f 501 (31 + 14 * p + k))) = _; rw [h13, h14, nI_add]), rfl⟩ ⟨trivial, Nat.le_refl _, Nat.le_refl _⟩
theorem m_renewedBy {p k : Nat} (hM : v_M (f 501) 0 v) (hB : v_B v) (hp : p < v 2 0 0) (hk : k + 1 < v 0 0 0) : x_V 266 (d + 3) [.ref 500, .int (nI p), .int (nI k)] (f, g, x_HR r t, dm, n) (.int (nI (d_ren v p k))) (f, g, x_HR r t, dm, n) := by
  have bK := v_B_K hB
  have bG := v_B_G hB
  have bP := v_B_P hB
  have o13 : v_ok v 13 p k := show p < v 2 0 0 ∧ k < v 0 0 0 from ⟨by omega, by omega⟩
  have h13 : f 501 (27 + 14 * p + k) = nI (v 13 p k) := v_M_at hM o13
  have b13 : v 13 p k ≤ 9999 := (hB.1 13 p k o13).2
  have o14 : v_ok v 14 p k := show p < v 2 0 0 ∧ k < v 0 0 0 from ⟨by omega, by omega⟩
  have h14 : f 501 (31 + 14 * p + k) = nI (v 14 p k) := v_M_at hM o14
  have b14 : v 14 p k ≤ 9999 := (hB.1 14 p k o14).2
  have o23 : v_ok v 13 p (k+1) := show p < v 2 0 0 ∧ (k+1) < v 0 0 0 from ⟨by omega, by omega⟩
  have h23 : f 501 (27 + 14 * p + (k+1)) = nI (v 13 p (k+1)) := v_M_at hM o23
  have b23 : v 13 p (k+1) ≤ 9999 := (hB.1 13 p (k+1) o23).2
  have e : (if nI 9999 - f 501 (27 + 14 * p + (k + 1)) < nI (v 13 p k + v 14 p k) / nI 5 then nI 9999 - f 501 (27 + 14 * p + (k + 1)) else nI (v 13 p k + v 14 p k) / nI 5) = nI (d_ren v p k) := by
    rw [h23, pk_div (by omega) (by decide) (by decide), pk_sub (by omega), x_min_nI (by omega) (by omega)]
    rfl
  have ew := m_wholeAt (d := d + 1) (h := (f, g, x_HR r t, dm, n)) (p := p) (k := k + 1)
  rw [nI_succ] at ew
  refine x_Ct_w (by decide) (Nat.le_of_ble_eq_true rfl) ok266 [] 2 ?_
  refine Exists.intro _ (And.intro (m_allOf hM hB hp (by omega)) (And.intro (And.intro (Nat.zero_le _) (Nat.zero_le _)) (fun q h' hpo => ?_)))
  obtain ⟨rfl, rfl⟩ := hpo
  refine And.intro (by decide) ?_
  refine Exists.intro _ (And.intro ew (And.intro (And.intro (Nat.zero_le _) (Nat.zero_le _)) (fun q h' hpo => ?_)))
  obtain ⟨rfl, rfl⟩ := hpo
  refine And.intro (x_ix_nI (by omega) (by omega)) ?_
  rw [nI_clamp (by omega)]
  exact And.intro ⟨(congrArg (fun z => some (Value.int z)) e), rfl⟩ ⟨trivial, Nat.le_refl _, Nat.le_refl _⟩
theorem m_canRenew {k : Nat} (hM : v_M (f 501) 0 v) (hB : v_B v) (hk : k < 100) : x_V 267 d [.ref 500, .int (nI k)] (f, g, x_HR r t, dm, n) (.int (x_bo (decide (k + 1 < v 0 0 0)))) (f, g, x_HR r t, dm, n) := by
  have bK := v_B_K hB
  have bG := v_B_G hB
  have bP := v_B_P hB
  have o0 : v_ok v 0 0 0 := ⟨rfl, rfl⟩
  have h0 : f 501 0 = nI (v 0 0 0) := v_M_at hM o0
  have b0 : v 0 0 0 ≤ 4 := (hB.1 0 0 0 o0).2
  refine x_Ct_w (by decide) (Nat.le_of_ble_eq_true rfl) ok267 [] 4 ?_
  refine And.intro (x_ix_nI (j := 0) (by decide) (by decide)) ?_
  refine And.intro (fun c => ?_) (fun c => ?_)
  · have c : f 501 0 ≤ nI k + 1 := c
    rw [h0, nI_1, nI_leI (by omega) (by omega)] at c
    rw [decide_eq_false (by omega)]
    exact And.intro ⟨rfl, rfl⟩ ⟨Or.inl rfl, Nat.le_refl _, Nat.le_refl _⟩
  · have c : ¬ f 501 0 ≤ nI k + 1 := c
    rw [h0, nI_1, nI_leI (by omega) (by omega)] at c
    rw [decide_eq_true (by omega)]
    exact And.intro ⟨rfl, rfl⟩ ⟨Or.inr rfl, Nat.le_refl _, Nat.le_refl _⟩
theorem m_losing {p k : Nat} (hM : v_M (f 501) 0 v) (hB : v_B v) (hp : p < v 2 0 0) (hk : k + 1 < v 0 0 0) : x_V 289 (d + 4) [.ref 500, .int (nI p), .int (nI k)] (f, g, x_HR r t, dm, n) (.int (v_loss v p k)) (f, g, x_HR r t, dm, n) := by
  have bK := v_B_K hB
  have bG := v_B_G hB
  have bP := v_B_P hB
  have o9 : v_ok v 9 k 0 := show k < v 0 0 0 ∧ 0 = 0 from ⟨by omega, rfl⟩
  have h9 : f 501 (12 + k) = nI (v 9 k 0) := v_M_at hM o9
  have b9 : v 9 k 0 ≤ 500 := (hB.1 9 k 0 o9).2
  have l9 : 1 ≤ v 9 k 0 := (hB.1 9 k 0 o9).1
  have o19 : v_ok v 9 (k+1) 0 := show (k+1) < v 0 0 0 ∧ 0 = 0 from ⟨by omega, rfl⟩
  have h19 : f 501 (12 + (k+1)) = nI (v 9 (k+1) 0) := v_M_at hM o19
  have b19 : v 9 (k+1) 0 ≤ 500 := (hB.1 9 (k+1) 0 o19).2
  have l19 : 1 ≤ v 9 (k+1) 0 := (hB.1 9 (k+1) 0 o19).1
  have ew := m_worthV (r := r) (t := t) (dm := dm) (n := n) (d := d + 3) (g := g) (k := k + 1) (w := v 9 (k + 1) 0) (by omega) h19
  rw [nI_succ] at ew
  refine x_Ct_w (by decide) (Nat.le_of_ble_eq_true rfl) ok289 [] 2 ?_
  refine Exists.intro _ (And.intro (m_allOf hM hB hp (by omega)) (And.intro (And.intro (Nat.zero_le _) (Nat.zero_le _)) (fun q h' hpo => ?_)))
  obtain ⟨rfl, rfl⟩ := hpo
  refine Exists.intro _ (And.intro (m_worthV (w := v 9 k 0) (by omega) h9) (And.intro (And.intro (Nat.zero_le _) (Nat.zero_le _)) (fun q h' hpo => ?_)))
  obtain ⟨rfl, rfl⟩ := hpo
  refine Exists.intro _ (And.intro (m_renewedBy hM hB hp hk) (And.intro (And.intro (Nat.zero_le _) (Nat.zero_le _)) (fun q h' hpo => ?_)))
  obtain ⟨rfl, rfl⟩ := hpo
  refine Exists.intro _ (And.intro ew (And.intro (And.intro (Nat.zero_le _) (Nat.zero_le _)) (fun q h' hpo => ?_)))
  obtain ⟨rfl, rfl⟩ := hpo
  exact And.intro ⟨(by show some (Value.int (nI (v 13 p k + v 14 p k) * nI (v 9 k 0) - nI (d_ren v p k) * nI (v 9 (k + 1) 0))) = _; rw [pk_mul, pk_mul]; rfl), rfl⟩ ⟨trivial, Nat.le_refl _, Nat.le_refl _⟩
theorem m_loses {x y : Int32} (hM : v_M (f 501) 0 v) (hB : v_B v) : x_Ct 290 (d + 5) [.ref 500, .int x, .int y] (f, g, x_HR r t, dm, n) (x_PM f g (x_HR r t) dm n (sp_loses v x y)) := by
  have bK := v_B_K hB
  have bG := v_B_G hB
  have bP := v_B_P hB
  have o0 : v_ok v 0 0 0 := ⟨rfl, rfl⟩
  have h0 : f 501 0 = nI (v 0 0 0) := v_M_at hM o0
  have b0 : v 0 0 0 ≤ 4 := (hB.1 0 0 0 o0).2
  have o2 : v_ok v 2 0 0 := ⟨rfl, rfl⟩
  have h2 : f 501 2 = nI (v 2 0 0) := v_M_at hM o2
  have b2 : v 2 0 0 ≤ 5 := (hB.1 2 0 0 o2).2
  unfold sp_loses
  refine x_Ct_w (by decide) (Nat.le_of_ble_eq_true rfl) ok290 [] 6 ?_
  refine Exists.intro _ (And.intro (m_isSheet h0 (by omega) h2 (by omega)) (And.intro (And.intro (Nat.zero_le _) (Nat.zero_le _)) (fun q h' hpo => ?_)))
  obtain ⟨rfl, rfl⟩ := hpo
  cases hb : (x_ixb x (v 2 0 0) && x_ixb y (v 0 0 0)) with
  | false =>
    refine And.intro (fun c => absurd rfl c) (fun _ => ?_)
    refine Exists.intro _ (And.intro m_refuse (And.intro (And.intro (Nat.zero_le _) (Nat.zero_le _)) (fun q h' hpo => ?_)))
    obtain ⟨rfl, rfl⟩ := hpo
    refine And.intro ?_ ⟨trivial, Nat.le_refl _, Nat.le_refl _⟩
    exact x_PM_0 hM
  | true =>
    refine And.intro (fun _ => ?_) (fun c => absurd c (by decide))
    rw [Bool.and_eq_true] at hb
    obtain ⟨p, hp, rfl⟩ := x_ixb_t hb.1 (by omega)
    obtain ⟨k, hk, rfl⟩ := x_ixb_t hb.2 (by omega)
    rw [x_c, x_c, nI_clamp (by omega), nI_clamp (by omega)]
    refine Exists.intro _ (And.intro (m_canRenew hM hB (by omega)) (And.intro (And.intro (Nat.zero_le _) (Nat.zero_le _)) (fun q h' hpo => ?_)))
    obtain ⟨rfl, rfl⟩ := hpo
    by_cases hk1 : k + 1 < v 0 0 0
    · rw [if_pos hk1, decide_eq_true hk1]
      refine And.intro (fun c => absurd c (by decide)) (fun _ => ?_)
      refine Exists.intro _ (And.intro (m_losing hM hB hp hk1) (And.intro (And.intro (Nat.zero_le _) (Nat.zero_le _)) (fun q h' hpo => ?_)))
      obtain ⟨rfl, rfl⟩ := hpo
      refine Exists.intro _ (And.intro m_gives (And.intro (And.intro (Nat.zero_le _) (Nat.zero_le _)) (fun q h' hpo => ?_)))
      obtain ⟨rfl, rfl⟩ := hpo
      refine And.intro ?_ ⟨trivial, Nat.le_refl _, Nat.le_refl _⟩
      exact x_PM_0 hM
    · rw [if_neg hk1, decide_eq_false hk1]
      refine And.intro (fun _ => ?_) (fun c => absurd rfl c)
      refine Exists.intro _ (And.intro m_refuse (And.intro (And.intro (Nat.zero_le _) (Nat.zero_le _)) (fun q h' hpo => ?_)))
      obtain ⟨rfl, rfl⟩ := hpo
      refine And.intro ?_ ⟨trivial, Nat.le_refl _, Nat.le_refl _⟩
      exact x_PM_0 hM
theorem m_losers {x : Int32} (hM : v_M (f 501) 0 v) (hB : v_B v) : x_Ct 291 (d + 5) [.ref 500, .int x] (f, g, x_HR r t, dm, n) (x_PM f g (x_HR r t) dm n (sp_losers v x)) := by
  have bK := v_B_K hB
  have bG := v_B_G hB
  have bP := v_B_P hB
  have o0 : v_ok v 0 0 0 := ⟨rfl, rfl⟩
  have h0 : f 501 0 = nI (v 0 0 0) := v_M_at hM o0
  have b0 : v 0 0 0 ≤ 4 := (hB.1 0 0 0 o0).2
  have o2 : v_ok v 2 0 0 := ⟨rfl, rfl⟩
  have h2 : f 501 2 = nI (v 2 0 0) := v_M_at hM o2
  have b2 : v 2 0 0 ≤ 5 := (hB.1 2 0 0 o2).2
  have loop : ∀ m p k, p + m = v 2 0 0 → k + 1 < v 0 0 0 → x_J 291 (d + 5) (x_PM f g (x_HR r t) dm n (.int (v_losers v k (v 2 0 0)), 0, v)) 33 [some (.ref 500), some (.int (nI k)), some (.int (v_losers v k p)), some (.int (nI p))] [] (f, g, x_HR r t, dm, n) 0 0 := by
    intro m
    induction m with
    | zero =>
      intro p k hp hk
      refine x_wp_ok ok291 [33] 5 ?_
      refine And.intro (x_ix_nI (j := 2) (by decide) (by decide)) ?_
      refine And.intro (fun c => ?_) (fun c => ?_)
      · rw [Nat.add_zero] at hp
        subst hp
        refine Exists.intro _ (And.intro m_gives (And.intro (And.intro (Nat.zero_le _) (Nat.zero_le _)) (fun q h' hpo => ?_)))
        obtain ⟨rfl, rfl⟩ := hpo
        refine And.intro ?_ ⟨trivial, Nat.le_refl _, Nat.le_refl _⟩
        exact x_PM_0 hM
      · have c : ¬ f 501 2 ≤ nI p := c
        rw [h2] at c
        exact absurd (nI_le (by omega) (by omega)) c
    | succ m ih =>
      intro p k hp hk
      refine x_wp_ok ok291 [33] 5 ?_
      refine And.intro (x_ix_nI (j := 2) (by decide) (by decide)) ?_
      refine And.intro (fun c => ?_) (fun c => ?_)
      · have c : f 501 2 ≤ nI p := c
        rw [h2] at c
        exact absurd c (nI_ge (by omega) (by omega))
      · refine Exists.intro _ (And.intro (m_losing hM hB (show p < v 2 0 0 by omega) hk) (And.intro (And.intro (Nat.zero_le _) (Nat.zero_le _)) (fun q h' hpo => ?_)))
        obtain ⟨rfl, rfl⟩ := hpo
        have e := ih (p + 1) k (by omega) hk
        rw [nI_succ, show v_losers v k (p + 1) = if 0 < v_loss v p k then v_losers v k p ||| (1 : Int32) <<< (nI p &&& 31) else v_losers v k p from rfl] at e
        refine And.intro (fun c => ?_) (fun c => ?_)
        · have c : v_loss v p k ≤ 0 := c
          rw [if_neg (Int32.not_lt.mpr c), ← Int32.or_zero (a := v_losers v k p)] at e
          exact e
        · have c : ¬ v_loss v p k ≤ 0 := c
          rw [if_pos (Int32.not_le.mp c)] at e
          exact e
  unfold sp_losers
  refine x_Ct_w (by decide) (Nat.le_of_ble_eq_true rfl) ok291 [33] 8 ?_
  refine Exists.intro _ (And.intro (m_isKind h0 (by omega)) (And.intro (And.intro (Nat.zero_le _) (Nat.zero_le _)) (fun q h' hpo => ?_)))
  obtain ⟨rfl, rfl⟩ := hpo
  cases hb : x_ixb x (v 0 0 0) with
  | false =>
    refine And.intro (fun c => absurd rfl c) (fun _ => ?_)
    refine Exists.intro _ (And.intro m_refuse (And.intro (And.intro (Nat.zero_le _) (Nat.zero_le _)) (fun q h' hpo => ?_)))
    obtain ⟨rfl, rfl⟩ := hpo
    refine And.intro ?_ ⟨trivial, Nat.le_refl _, Nat.le_refl _⟩
    exact x_PM_0 hM
  | true =>
    refine And.intro (fun _ => ?_) (fun c => absurd c (by decide))
    obtain ⟨k, hk, rfl⟩ := x_ixb_t hb (by omega)
    rw [x_c, nI_clamp (by omega)]
    refine Exists.intro _ (And.intro (m_canRenew hM hB (by omega)) (And.intro (And.intro (Nat.zero_le _) (Nat.zero_le _)) (fun q h' hpo => ?_)))
    obtain ⟨rfl, rfl⟩ := hpo
    by_cases hk1 : k + 1 < v 0 0 0
    · rw [if_pos hk1, decide_eq_true hk1]
      refine And.intro (fun _ => ?_) (fun c => absurd c (by decide))
      exact loop (v 2 0 0) 0 k (Nat.zero_add _) hk1
    · rw [if_neg hk1, decide_eq_false hk1]
      refine And.intro (fun c => absurd rfl c) (fun _ => ?_)
      refine Exists.intro _ (And.intro m_refuse (And.intro (And.intro (Nat.zero_le _) (Nat.zero_le _)) (fun q h' hpo => ?_)))
      obtain ⟨rfl, rfl⟩ := hpo
      refine And.intro ?_ ⟨trivial, Nat.le_refl _, Nat.le_refl _⟩
      exact x_PM_0 hM
end C29
