theorem x_lmax {a b : Nat} (ha : a < 2 ^ 63) (hb : b < 2 ^ 63) : (if lN b < lN a then lN a else lN b) = lN (max a b) := by
  by_cases h : b < a
  · rw [if_pos ((pk_lLT hb ha).mpr h), Nat.max_eq_left (by omega)]
  · rw [if_neg (fun c => h ((pk_lLT hb ha).mp c)), Nat.max_eq_right (by omega)]
section C44
variable {f : Nat → Nat → Int32} {g : Nat → Nat → Int64} {r t : Nat} {ρ : Nat → Nat → Option Nat} {dm : List Nat} {n d N : Nat} {v : xV} {h : xH}
theorem x_PM_LG {F : Nat → Nat → Int32} {G : Nat → Nat → Int64} {v' : xV} {w : Value} {s : Int32} (h : x_ML f F v') (hG : ∀ k, k ≠ 511 → G k = g k) : x_PM f g ρ dm n (w, s, v') (some w) (x_up F 500 2 s, G, ρ, dm, n) := by
  obtain ⟨F', G', e, a1, a2, a3, a4, a5, a6, a7, _⟩ := x_PM_L (g := g) (ρ := ρ) (dm := dm) (n := n) (w := w) (s := s) h
  cases e
  exact ⟨_, G, rfl, a1, a2, a3, a4, a5, a6, a7, hG⟩
theorem m_noPieces : x_Ct 284 d [.ref 500] (f, g, x_HR r t, dm, n) (fun q h' => q = none ∧ ∃ G, h' = (f, G, x_HR r t, dm, n) ∧ x_tq 511 g G (fun j => if j = 0 then 1 else 0) 999) := by
  have loop : ∀ m i G, i + m = 1000 → (∀ k, k ≠ 511 → G k = g k) → (∀ j, j < i → G 511 j = lN (if j = 0 then 1 else 0)) → x_J 284 d (fun q h' => q = none ∧ ∃ G, h' = (f, G, x_HR r t, dm, n) ∧ x_tq 511 g G (fun j => if j = 0 then 1 else 0) 999) 2 [some (.ref 500), some (.int (nI i))] [] (f, G, x_HR r t, dm, n) 0 0 := by
    intro m
    induction m with
    | zero =>
      intro i G hi h1 h2
      refine x_wp_ok ok284 [2] 5 ?_
      refine And.intro (fun c => ?_) (fun c => ?_)
      · exact And.intro ⟨rfl, G, rfl, h1, fun j hj => h2 j (by omega)⟩ ⟨trivial, Nat.le_refl _, Nat.le_refl _⟩
      · have c : ¬ nI 999 < nI i := c
        rw [nI_ltI (by omega) (by omega)] at c
        omega
    | succ m ih =>
      intro i G hi h1 h2
      have e := ih (i + 1) (x_up G 511 i (lN (if i = 0 then 1 else 0))) (by omega) (fun k hk => by rw [x_up_k hk]; exact h1 k hk) (fun j hj => by
        by_cases e : j = i
        · subst e
          rw [x_up_s]
        · rw [x_up_j e]
          exact h2 j (by omega))
      rw [nI_succ i] at e
      refine x_wp_ok ok284 [2] 5 ?_
      refine And.intro (fun c => ?_) (fun c => ?_)
      · have c : nI 999 < nI i := c
        rw [nI_ltI (by omega) (by omega)] at c
        omega
      · refine And.intro (fun c2 => ?_) (fun c2 => ?_)
        · have c2 : ¬ nI i = nI 0 := c2
          rw [nI_eq (by omega) (by decide)] at c2
          rw [if_neg c2] at e
          refine And.intro (x_ix_nI (by omega) (by omega)) ?_
          rw [nI_clamp (by omega)]
          exact e
        · have c2 : nI i = nI 0 := c2
          rw [nI_eq (by omega) (by decide)] at c2
          rw [if_pos c2] at e
          refine And.intro (x_ix_nI (by omega) (by omega)) ?_
          rw [nI_clamp (by omega)]
          exact e
  exact x_Ct_w (by decide) (Nat.le_of_ble_eq_true rfl) ok284 [2] 5 (loop 1000 0 g (Nat.zero_add _) (fun _ _ => rfl) (fun j hj => by omega))
theorem m_addsPiece {w : Nat} {T : Nat → Nat} (hw : 1 ≤ w) (hw2 : w < 2 ^ 62) (hT : ∀ j, j ≤ 999 → g 511 j = lN (T j)) : x_Ct 283 d [.ref 500, .long (lN w)] (f, g, x_HR r t, dm, n) (fun q h' => q = none ∧ ∃ G, h' = (f, G, x_HR r t, dm, n) ∧ x_tq 511 g G (y_pC w T) 999) := by
  have loop : ∀ m i G, i + m = 1000 → (∀ k, k ≠ 511 → G k = g k) → (∀ j, j ≤ 999 → G 511 j = lN (if j < i then y_pC w T j else T j)) → x_J 283 d (fun q h' => q = none ∧ ∃ G, h' = (f, G, x_HR r t, dm, n) ∧ x_tq 511 g G (y_pC w T) 999) 2 [some (.ref 500), some (.long (lN w)), none, some (.int (nI i))] [] (f, G, x_HR r t, dm, n) 0 0 := by
    intro m
    induction m with
    | zero =>
      intro i G hi h1 h2
      refine x_wp_ok ok283 [2] 5 ?_
      refine And.intro (fun c => ?_) (fun c => ?_)
      · exact And.intro ⟨rfl, G, rfl, h1, fun j hj => by rw [h2 j hj, if_pos (by omega)]⟩ ⟨trivial, Nat.le_refl _, Nat.le_refl _⟩
      · have c : ¬ nI 999 < nI i := c
        rw [nI_ltI (by omega) (by omega)] at c
        omega
    | succ m ih =>
      intro i G hi h1 h2
      have eV := y_pC_eq (T := T) hw i
      refine x_wp_ok ok283 [2] 5 ?_
      refine And.intro (fun c => ?_) (fun c => ?_)
      · have c : nI 999 < nI i := c
        rw [nI_ltI (by omega) (by omega)] at c
        omega
      · refine And.intro (fun c2 => ?_) (fun c2 => ?_)
        · have c2 : lg_cmp (nI i).toInt64 (lN w) < 0 := c2
          rw [x_lg_lt, nI_l (by omega), pk_lLT (by omega) (by omega)] at c2
          rw [if_neg (by omega), Nat.add_zero] at eV
          have e := ih (i + 1) G (by omega) h1 (fun j hj => by
            rw [h2 j hj]
            congr 1
            by_cases e : j = i
            · subst e
              rw [if_neg (by omega), if_pos (by omega), eV]
            · by_cases hc : j < i
              · rw [if_pos hc, if_pos (by omega)]
              · rw [if_neg hc, if_neg (by omega)])
          rw [nI_succ i] at e
          exact e
        · have c2 : ¬ lg_cmp (nI i).toInt64 (lN w) < 0 := c2
          rw [x_lg_lt, nI_l (by omega), pk_lLT (by omega) (by omega)] at c2
          rw [if_pos (by omega)] at eV
          have g1 : G 511 (i - w) = lN (y_pC w T (i - w)) := by rw [h2 _ (by omega), if_pos (by omega)]
          have g2 : G 511 i = lN (T i) := by rw [h2 _ (by omega), if_neg (by omega)]
          have ei : nI i - (lN w).toInt32 = nI (i - w) := by rw [lN_i, pk_sub (by omega)]
          refine And.intro (x_ix_nI (by omega) (by omega)) ?_
          rw [nI_clamp (by omega)]
          refine And.intro (by show x_ix (nI i - (lN w).toInt32) 1000; rw [ei]; exact x_ix_nI (by omega) (by omega)) ?_
          rw [ei, nI_clamp (by omega)]
          refine And.intro (x_ix_nI (by omega) (by omega)) ?_
          rw [nI_clamp (by omega)]
          have e := ih (i + 1) (x_up G 511 i (G 511 i + G 511 (i - w))) (by omega) (fun k hk => by rw [x_up_k hk]; exact h1 k hk) (fun j hj => by
            by_cases e : j = i
            · subst e
              rw [x_up_s, if_pos (by omega), g1, g2, lN_add, eV]
            · rw [x_up_j e, h2 j hj]
              congr 1
              by_cases hc : j < i
              · rw [if_pos hc, if_pos (by omega)]
              · rw [if_neg hc, if_neg (by omega)])
          rw [nI_succ i] at e
          exact e
  exact x_Ct_w (by decide) (Nat.le_of_ble_eq_true rfl) ok283 [2] 5 (loop 1000 0 g (Nat.zero_add _) (fun _ _ => rfl) (fun j hj => by rw [if_neg (by omega), hT j hj]))
theorem m_changes {x : Int32} (hM : v_M (f 501) 0 v) (hB : v_B v) : x_Ct 285 (d + 2) [.ref 500, .int x] (f, g, x_HR r t, dm, n) (x_PM f g (x_HR r t) dm n (sp_changes v x)) := by
  have bK := v_B_K hB
  have bG := v_B_G hB
  have bP := v_B_P hB
  have o0 : v_ok v 0 0 0 := ⟨rfl, rfl⟩
  have h0 : f 501 0 = nI (v 0 0 0) := v_M_at hM o0
  have b0 : v 0 0 0 ≤ 4 := (hB.1 0 0 0 o0).2
  unfold sp_changes
  refine x_Ct_w (by decide) (Nat.le_of_ble_eq_true rfl) ok285 [20] 6 ?_
  refine Exists.intro _ (And.intro m_isSum (And.intro (And.intro (Nat.zero_le _) (Nat.zero_le _)) (fun q h' hpo => ?_)))
  obtain ⟨rfl, rfl⟩ := hpo
  cases hy : x_wi x 0 999 with
  | false =>
    refine And.intro (fun c => absurd rfl c) (fun _ => ?_)
    refine Exists.intro _ (And.intro m_refuse (And.intro (And.intro (Nat.zero_le _) (Nat.zero_le _)) (fun q h' hpo => ?_)))
    obtain ⟨rfl, rfl⟩ := hpo
    refine And.intro ?_ ⟨trivial, Nat.le_refl _, Nat.le_refl _⟩
    exact x_PM_0 hM
  | true =>
    refine And.intro (fun _ => ?_) (fun c => absurd c (by decide))
    obtain ⟨s, hs1, hs, rfl⟩ := x_wi_t (lo := 0) (hi := 999) hy (by decide) (by decide)
    rw [x_c, nI_clamp (by omega)]
    refine Exists.intro _ (And.intro m_noPieces (And.intro (And.intro (Nat.zero_le _) (Nat.zero_le _)) (fun q h' hpo => ?_)))
    obtain ⟨rfl, G, rfl, t1⟩ := hpo
    have loop : ∀ m k G, k + m = v 0 0 0 → x_tq 511 g G (y_cnt (v_w v) k) 999 → x_J 285 (d + 2) (x_PM f g (x_HR r t) dm n (.long (lN (y_cnt (v_w v) (v 0 0 0) s)), 0, v)) 20 [some (.ref 500), some (.int (nI s)), some (.int (nI k))] [] (f, G, x_HR r t, dm, n) 0 0 := by
      intro m
      induction m with
      | zero =>
        intro k G hk h2
        obtain rfl : k = v 0 0 0 := by omega
        refine x_wp_ok ok285 [20] 6 ?_
        refine And.intro (x_ix_nI (j := 0) (by decide) (by decide)) ?_
        refine And.intro (fun c => ?_) (fun c => ?_)
        · refine Exists.intro _ (And.intro m_is (And.intro (And.intro (Nat.zero_le _) (Nat.zero_le _)) (fun q h' hpo => ?_)))
          obtain ⟨rfl, rfl⟩ := hpo
          refine And.intro (x_ix_nI (by omega) (by omega)) ?_
          rw [nI_clamp (by omega)]
          refine And.intro ?_ ⟨trivial, Nat.le_refl _, Nat.le_refl _⟩
          rw [← h2.2 s hs]
          exact x_PM_LG (x_ML_0 hM) h2.1
        · have c : ¬ f 501 0 ≤ nI (v 0 0 0) := c
          rw [h0, nI_leI (by omega) (by omega)] at c
          omega
      | succ m ih =>
        intro k G hk h2
        have o9 : v_ok v 9 k 0 := show k < v 0 0 0 ∧ 0 = 0 from ⟨by omega, rfl⟩
        have h9 : f 501 (12 + k) = nI (v 9 k 0) := v_M_at hM o9
        have b9 : v 9 k 0 ≤ 500 := (hB.1 9 k 0 o9).2
        have l9 : 1 ≤ v 9 k 0 := (hB.1 9 k 0 o9).1
        refine x_wp_ok ok285 [20] 6 ?_
        refine And.intro (x_ix_nI (j := 0) (by decide) (by decide)) ?_
        refine And.intro (fun c => ?_) (fun c => ?_)
        · have c : f 501 0 ≤ nI k := c
          rw [h0, nI_leI (by omega) (by omega)] at c
          omega
        · refine Exists.intro _ (And.intro (m_worthV (w := v 9 k 0) (by omega) h9) (And.intro (And.intro (Nat.zero_le _) (Nat.zero_le _)) (fun q h' hpo => ?_)))
          obtain ⟨rfl, rfl⟩ := hpo
          have ap := m_addsPiece (d := d + 1) (f := f) (g := G) (r := r) (t := t) (dm := dm) (n := n) (w := v 9 k 0) l9 (by omega) h2.2
          rw [← nI_l (show v 9 k 0 < 2 ^ 31 by omega)] at ap
          refine Exists.intro _ (And.intro ap (And.intro (And.intro (Nat.zero_le _) (Nat.zero_le _)) (fun q h' hpo => ?_)))
          obtain ⟨rfl, G', rfl, t1⟩ := hpo
          have e := ih (k + 1) G' (by omega) ⟨fun j hj => (t1.1 j hj).trans (h2.1 j hj), t1.2⟩
          rw [nI_succ k] at e
          exact e
    exact loop (v 0 0 0) 0 G (Nat.zero_add _) t1
theorem m_baskets {x : Int32} (hM : v_M (f 501) 0 v) (hB : v_B v) : x_Ct 287 (d + 2) [.ref 500, .int x] (f, g, x_HR r t, dm, n) (x_PM f g (x_HR r t) dm n (sp_baskets v x)) := by
  have bK := v_B_K hB
  have bG := v_B_G hB
  have bP := v_B_P hB
  have o1 : v_ok v 1 0 0 := ⟨rfl, rfl⟩
  have h1 : f 501 1 = nI (v 1 0 0) := v_M_at hM o1
  have b1 : v 1 0 0 ≤ 5 := (hB.1 1 0 0 o1).2
  have o7 : v_ok v 7 0 0 := ⟨rfl, rfl⟩
  have h7 : f 501 7 = nI (v 7 0 0) := v_M_at hM o7
  have b7 : v 7 0 0 ≤ 21000000 := (hB.1 7 0 0 o7).2
  have l7 : 1 ≤ v 7 0 0 := (hB.1 7 0 0 o7).1
  unfold sp_baskets
  refine x_Ct_w (by decide) (Nat.le_of_ble_eq_true rfl) ok287 [20] 6 ?_
  refine Exists.intro _ (And.intro m_isSum (And.intro (And.intro (Nat.zero_le _) (Nat.zero_le _)) (fun q h' hpo => ?_)))
  obtain ⟨rfl, rfl⟩ := hpo
  cases hy : x_wi x 0 999 with
  | false =>
    refine And.intro (fun c => absurd rfl c) (fun _ => ?_)
    refine Exists.intro _ (And.intro m_refuse (And.intro (And.intro (Nat.zero_le _) (Nat.zero_le _)) (fun q h' hpo => ?_)))
    obtain ⟨rfl, rfl⟩ := hpo
    refine And.intro ?_ ⟨trivial, Nat.le_refl _, Nat.le_refl _⟩
    exact x_PM_0 hM
  | true =>
    refine And.intro (fun _ => ?_) (fun c => absurd c (by decide))
    obtain ⟨s, hs1, hs, rfl⟩ := x_wi_t (lo := 0) (hi := 999) hy (by decide) (by decide)
    rw [x_c, nI_clamp (by omega), ← y_cnt_sc l7 (v 1 0 0) (v_val_1 hB) s]
    refine Exists.intro _ (And.intro m_noPieces (And.intro (And.intro (Nat.zero_le _) (Nat.zero_le _)) (fun q h' hpo => ?_)))
    obtain ⟨rfl, G, rfl, t1⟩ := hpo
    have loop : ∀ m k G, k + m = v 1 0 0 → x_tq 511 g G (y_cnt (fun i => v_val v i * v 7 0 0) k) 999 → x_J 287 (d + 2) (x_PM f g (x_HR r t) dm n (.long (lN (y_cnt (fun i => v_val v i * v 7 0 0) (v 1 0 0) s)), 0, v)) 20 [some (.ref 500), some (.int (nI s)), some (.int (nI k))] [] (f, G, x_HR r t, dm, n) 0 0 := by
      intro m
      induction m with
      | zero =>
        intro k G hk h2
        obtain rfl : k = v 1 0 0 := by omega
        refine x_wp_ok ok287 [20] 6 ?_
        refine And.intro (x_ix_nI (j := 1) (by decide) (by decide)) ?_
        refine And.intro (fun c => ?_) (fun c => ?_)
        · refine Exists.intro _ (And.intro m_is (And.intro (And.intro (Nat.zero_le _) (Nat.zero_le _)) (fun q h' hpo => ?_)))
          obtain ⟨rfl, rfl⟩ := hpo
          refine And.intro (x_ix_nI (by omega) (by omega)) ?_
          rw [nI_clamp (by omega)]
          refine And.intro ?_ ⟨trivial, Nat.le_refl _, Nat.le_refl _⟩
          rw [← h2.2 s hs]
          exact x_PM_LG (x_ML_0 hM) h2.1
        · have c : ¬ f 501 1 ≤ nI (v 1 0 0) := c
          rw [h1, nI_leI (by omega) (by omega)] at c
          omega
      | succ m ih =>
        intro k G hk h2
        have o10 : v_ok v 10 k 0 := show k < v 1 0 0 ∧ 0 = 0 from ⟨by omega, rfl⟩
        have h10 : f 501 (16 + 2 * k) = nI (v 10 k 0) := v_M_at hM o10
        have b10 : v 10 k 0 ≤ 99 := (hB.1 10 k 0 o10).2
        have l10 : 1 ≤ v 10 k 0 := (hB.1 10 k 0 o10).1
        have hpr : 1 * 1 ≤ v 10 k 0 * v 7 0 0 := Nat.mul_le_mul l10 l7
        have hpr2 : v 10 k 0 * v 7 0 0 ≤ 99 * 21000000 := Nat.mul_le_mul b10 b7
        refine x_wp_ok ok287 [20] 6 ?_
        refine And.intro (x_ix_nI (j := 1) (by decide) (by decide)) ?_
        refine And.intro (fun c => ?_) (fun c => ?_)
        · have c : f 501 1 ≤ nI k := c
          rw [h1, nI_leI (by omega) (by omega)] at c
          omega
        · refine Exists.intro _ (And.intro (m_priceOf hM hB (show k < v 1 0 0 by omega)) (And.intro (And.intro (Nat.zero_le _) (Nat.zero_le _)) (fun q h' hpo => ?_)))
          obtain ⟨rfl, rfl⟩ := hpo
          refine Exists.intro _ (And.intro (m_addsPiece (w := v 10 k 0 * v 7 0 0) hpr (by omega) h2.2) (And.intro (And.intro (Nat.zero_le _) (Nat.zero_le _)) (fun q h' hpo => ?_)))
          obtain ⟨rfl, G', rfl, t1⟩ := hpo
          have e := ih (k + 1) G' (by omega) ⟨fun j hj => (t1.1 j hj).trans (h2.1 j hj), t1.2⟩
          rw [nI_succ k] at e
          exact e
    exact loop (v 1 0 0) 0 G (Nat.zero_add _) t1
theorem m_mostValue {x : Int32} (hM : v_M (f 501) 0 v) (hB : v_B v) : x_Ct 288 (d + 2) [.ref 500, .int x] (f, g, x_HR r t, dm, n) (x_PM f g (x_HR r t) dm n (sp_mostValue v x)) := by
  have bK := v_B_K hB
  have bG := v_B_G hB
  have bP := v_B_P hB
  have o1 : v_ok v 1 0 0 := ⟨rfl, rfl⟩
  have h1 : f 501 1 = nI (v 1 0 0) := v_M_at hM o1
  have b1 : v 1 0 0 ≤ 5 := (hB.1 1 0 0 o1).2
  have o7 : v_ok v 7 0 0 := ⟨rfl, rfl⟩
  have h7 : f 501 7 = nI (v 7 0 0) := v_M_at hM o7
  have b7 : v 7 0 0 ≤ 21000000 := (hB.1 7 0 0 o7).2
  have l7 : 1 ≤ v 7 0 0 := (hB.1 7 0 0 o7).1
  unfold sp_mostValue
  refine x_Ct_w (by decide) (Nat.le_of_ble_eq_true rfl) ok288 [15, 29] 6 ?_
  refine Exists.intro _ (And.intro m_isSum (And.intro (And.intro (Nat.zero_le _) (Nat.zero_le _)) (fun q h' hpo => ?_)))
  obtain ⟨rfl, rfl⟩ := hpo
  cases hy : x_wi x 0 999 with
  | false =>
    refine And.intro (fun c => absurd rfl c) (fun _ => ?_)
    refine Exists.intro _ (And.intro m_refuse (And.intro (And.intro (Nat.zero_le _) (Nat.zero_le _)) (fun q h' hpo => ?_)))
    obtain ⟨rfl, rfl⟩ := hpo
    refine And.intro ?_ ⟨trivial, Nat.le_refl _, Nat.le_refl _⟩
    exact x_PM_0 hM
  | true =>
    refine And.intro (fun _ => ?_) (fun c => absurd c (by decide))
    obtain ⟨S, hs1, hS, rfl⟩ := x_wi_t (lo := 0) (hi := 999) hy (by decide) (by decide)
    rw [x_c, nI_clamp (by omega)]
    obtain ⟨tp, htp⟩ : ∃ tp : Nat → Nat, tp = fun u => y_top (y_P (v_val v) (v 1 0 0)) u := ⟨_, rfl⟩
    have tple : ∀ u, tp u ≤ u := fun u => by rw [htp]; exact y_top_le _ u
    rw [show y_top (y_P (v_val v) (v 1 0 0)) (S / v 7 0 0) = tp (S / v 7 0 0) by rw [htp]]
    have loop : ∀ m s G l3 l4, s + m = S + 1 → (∀ k, k ≠ 511 → G k = g k) → (∀ j, j < s → G 511 j = lN (tp (j / v 7 0 0))) → x_J 288 (d + 2) (x_PM f g (x_HR r t) dm n (.int (nI (tp (S / v 7 0 0))), 0, v)) 15 [some (.ref 500), some (.int (nI S)), some (.int (nI s)), l3, l4, none] [] (f, G, x_HR r t, dm, n) 0 0 := by
      intro m
      induction m with
      | zero =>
        intro s G l3 l4 hs h1' h2
        refine x_wp_ok ok288 [15, 29] 6 ?_
        refine And.intro (fun c => ?_) (fun c => ?_)
        · refine And.intro (x_ix_nI (by omega) (by omega)) ?_
          rw [nI_clamp (by omega)]
          refine Exists.intro _ (And.intro m_gives (And.intro (And.intro (Nat.zero_le _) (Nat.zero_le _)) (fun q h' hpo => ?_)))
          obtain ⟨rfl, rfl⟩ := hpo
          refine And.intro ?_ ⟨trivial, Nat.le_refl _, Nat.le_refl _⟩
          have e1 : (G 511 S).toInt32 = nI (tp (S / v 7 0 0)) := by rw [h2 S (by omega), lN_i]
          rw [← e1]
          exact x_PM_LG (x_ML_0 hM) h1'
        · have c : ¬ nI S < nI s := c
          rw [nI_ltI (by omega) (by omega)] at c
          omega
      | succ m ih =>
        intro s G l3 l4 hs h1' h2
        obtain ⟨H, hH⟩ : ∃ H : Nat → Nat, H = fun i => if v_val v i * v 7 0 0 ≤ s then v_val v i + tp ((s - v_val v i * v 7 0 0) / v 7 0 0) else 0 := ⟨_, rfl⟩
        have eH : y_mx H (v 1 0 0) = tp (s / v 7 0 0) := by
          rw [hH, htp]
          exact y_mx_top (v_val_1 hB) l7
        have hHle : ∀ k, y_mx H k ≤ 2000 := fun k => y_mx_le k (fun i hi => by
          rw [hH]
          dsimp only
          split
          · rename_i hc
            have h5 : v_val v i * 1 ≤ v_val v i * v 7 0 0 := Nat.mul_le_mul_left _ l7
            have h6 := tple ((s - v_val v i * v 7 0 0) / v 7 0 0)
            have h7 : (s - v_val v i * v 7 0 0) / v 7 0 0 ≤ s - v_val v i * v 7 0 0 := Nat.div_le_self _ _
            omega
          · omega)
        have inner : ∀ m' k G l4, k + m' = v 1 0 0 → (∀ k, k ≠ 511 → G k = g k) → (∀ j, j < s → G 511 j = lN (tp (j / v 7 0 0))) → G 511 s = lN (y_mx H k) → x_J 288 (d + 2) (x_PM f g (x_HR r t) dm n (.int (nI (tp (S / v 7 0 0))), 0, v)) 29 [some (.ref 500), some (.int (nI S)), some (.int (nI s)), some (.int (nI k)), l4, none] [] (f, G, x_HR r t, dm, n) 0 0 := by
          intro m'
          induction m' with
          | zero =>
            intro k G l4 hk q1 q2 q3
            obtain rfl : k = v 1 0 0 := by omega
            refine x_wp_ok ok288 [15, 29] 6 ?_
            refine And.intro (x_ix_nI (j := 1) (by decide) (by decide)) ?_
            refine And.intro (fun c => ?_) (fun c => ?_)
            · have e := ih (s + 1) G (some (.int (nI (v 1 0 0)))) l4 (by omega) q1 (fun j hj => by
                by_cases e : j = s
                · subst e
                  rw [q3, eH]
                · exact q2 j (by omega))
              rw [nI_succ s] at e
              exact e
            · have c : ¬ f 501 1 ≤ nI (v 1 0 0) := c
              rw [h1, nI_leI (by omega) (by omega)] at c
              omega
          | succ m' ih' =>
            intro k G l4 hk q1 q2 q3
            have o10 : v_ok v 10 k 0 := show k < v 1 0 0 ∧ 0 = 0 from ⟨by omega, rfl⟩
            have h10 : f 501 (16 + 2 * k) = nI (v 10 k 0) := v_M_at hM o10
            have b10 : v 10 k 0 ≤ 99 := (hB.1 10 k 0 o10).2
            have l10 : 1 ≤ v 10 k 0 := (hB.1 10 k 0 o10).1
            have hpr : 1 * 1 ≤ v 10 k 0 * v 7 0 0 := Nat.mul_le_mul l10 l7
            have hpr2 : v 10 k 0 * v 7 0 0 ≤ 99 * 21000000 := Nat.mul_le_mul b10 b7
            have hl := hHle k
            have hvk : v_val v k = v 10 k 0 := rfl
            have eHk : H k = if v 10 k 0 * v 7 0 0 ≤ s then v 10 k 0 + tp ((s - v 10 k 0 * v 7 0 0) / v 7 0 0) else 0 := by rw [hH]; rfl
            refine x_wp_ok ok288 [15, 29] 8 ?_
            refine And.intro (x_ix_nI (j := 1) (by decide) (by decide)) ?_
            refine And.intro (fun c => ?_) (fun c => ?_)
            · have c : f 501 1 ≤ nI k := c
              rw [h1, nI_leI (by omega) (by omega)] at c
              omega
            · refine Exists.intro _ (And.intro (m_priceOf hM hB (show k < v 1 0 0 by omega)) (And.intro (And.intro (Nat.zero_le _) (Nat.zero_le _)) (fun q h' hpo => ?_)))
              obtain ⟨rfl, rfl⟩ := hpo
              refine And.intro (fun c2 => ?_) (fun c2 => ?_)
              · have c2 : lg_cmp (lN (v 10 k 0 * v 7 0 0)) (nI s).toInt64 ≤ 0 := c2
                rw [← Int32.not_lt, x_lg_gt, nI_l (by omega), pk_lLT (by omega) (by omega)] at c2
                rw [if_pos (by omega)] at eHk
                have ei : nI s - (lN (v 10 k 0 * v 7 0 0)).toInt32 = nI (s - v 10 k 0 * v 7 0 0) := by rw [lN_i, pk_sub (by omega)]
                refine Exists.intro _ (And.intro m_goodRow (And.intro (And.intro (Nat.zero_le _) (Nat.zero_le _)) (fun q h' hpo => ?_)))
                obtain ⟨rfl, rfl⟩ := hpo
                refine And.intro (x_ix_nI (by omega) (by omega)) ?_
                rw [nI_clamp (by omega)]
                refine Exists.intro _ (And.intro (m_priceOf hM hB (show k < v 1 0 0 by omega)) (And.intro (And.intro (Nat.zero_le _) (Nat.zero_le _)) (fun q h' hpo => ?_)))
                obtain ⟨rfl, rfl⟩ := hpo
                refine And.intro (by show x_ix (nI s - (lN (v 10 k 0 * v 7 0 0)).toInt32) 1000; rw [ei]; exact x_ix_nI (by omega) (by omega)) ?_
                rw [ei, nI_clamp (by omega)]
                refine And.intro (x_ix_nI (by omega) (by omega)) ?_
                rw [nI_clamp (by omega)]
                refine And.intro (x_ix_nI (by omega) (by omega)) ?_
                rw [nI_clamp (by omega)]
                have hq := q2 (s - v 10 k 0 * v 7 0 0) (by omega)
                have h6 := tple ((s - v 10 k 0 * v 7 0 0) / v 7 0 0)
                have h7' : (s - v 10 k 0 * v 7 0 0) / v 7 0 0 ≤ s - v 10 k 0 * v 7 0 0 := Nat.div_le_self _ _
                have eits : (f 501 (16 + 2 * k)).toInt64 + G 511 (s - v 10 k 0 * v 7 0 0) = lN (v 10 k 0 + tp ((s - v 10 k 0 * v 7 0 0) / v 7 0 0)) := by rw [h10, nI_l (by omega), hq, lN_add]
                have em : (if (f 501 (16 + 2 * k)).toInt64 + G 511 (s - v 10 k 0 * v 7 0 0) < G 511 s then G 511 s else (f 501 (16 + 2 * k)).toInt64 + G 511 (s - v 10 k 0 * v 7 0 0)) = lN (y_mx H (k + 1)) := by
                  rw [eits, q3, x_lmax (by omega) (by omega), show y_mx H (k + 1) = max (y_mx H k) (H k) from rfl, eHk]
                have e := ih' (k + 1) (x_up G 511 s (lN (y_mx H (k + 1)))) (some (.long ((f 501 (16 + 2 * k)).toInt64 + G 511 (s - v 10 k 0 * v 7 0 0)))) (by omega) (fun j hj => by rw [x_up_k hj]; exact q1 j hj) (fun j hj => by rw [x_up_j (by omega)]; exact q2 j hj) (x_up_s _ _ _ _)
                rw [← em, nI_succ k] at e
                exact e
              · have c2 : ¬ lg_cmp (lN (v 10 k 0 * v 7 0 0)) (nI s).toInt64 ≤ 0 := c2
                rw [← Int32.not_lt, x_lg_gt, nI_l (by omega), pk_lLT (by omega) (by omega)] at c2
                rw [if_neg (by omega)] at eHk
                have e := ih' (k + 1) G l4 (by omega) q1 q2 (by rw [q3, show y_mx H (k + 1) = max (y_mx H k) (H k) from rfl, eHk, Nat.max_eq_left (Nat.zero_le _)])
                rw [nI_succ k] at e
                exact e
        refine x_wp_ok ok288 [15, 29] 6 ?_
        refine And.intro (fun c => ?_) (fun c => ?_)
        · have c : nI S < nI s := c
          rw [nI_ltI (by omega) (by omega)] at c
          omega
        · refine And.intro (x_ix_nI (by omega) (by omega)) ?_
          rw [nI_clamp (by omega)]
          exact inner (v 1 0 0) 0 (x_up G 511 s (lN 0)) l4 (Nat.zero_add _) (fun j hj => by rw [x_up_k hj]; exact h1' j hj) (fun j hj => by rw [x_up_j (by omega)]; exact h2 j hj) (x_up_s _ _ _ _)
    exact loop (S + 1) 0 g none none (Nat.zero_add _) (fun _ _ => rfl) (fun j hj => by omega)
end C44
