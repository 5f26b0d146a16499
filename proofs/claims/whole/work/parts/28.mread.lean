theorem x_wi_f1 {x lo hi : Int32} (c : x < lo) : x_wi x lo hi = false := by
  rw [x_lt] at c
  simp only [x_wi, Bool.and_eq_false_iff, decide_eq_false_iff_not]
  omega
theorem x_wi_f2 {x lo hi : Int32} (c : ¬ x ≤ hi) : x_wi x lo hi = false := by
  rw [x_le] at c
  simp only [x_wi, Bool.and_eq_false_iff, decide_eq_false_iff_not]
  omega
theorem x_wi_tt {x lo hi : Int32} (c : ¬ x < lo) (c2 : x ≤ hi) : x_wi x lo hi = true := by
  rw [x_lt] at c
  rw [x_le] at c2
  simp only [x_wi, Bool.and_eq_true, decide_eq_true_eq]
  omega
theorem x_wi_01 {x : Int32} (h : x_wi x 0 1 = true) : x = 0 ∨ x = 1 := by
  obtain ⟨j, h1, h2, rfl⟩ := x_wi_t (lo := 0) (hi := 1) h (by decide) (by decide)
  obtain rfl | rfl : j = 0 ∨ j = 1 := by omega
  · exact Or.inl rfl
  · exact Or.inr rfl
theorem v_set_comm (v : xV) {c i j x c' i' j' y : Nat} (h : c ≠ c') : v_set (v_set v c i j x) c' i' j' y = v_set (v_set v c' i' j' y) c i j x := by
  funext a b e
  unfold v_set
  by_cases h1 : a = c' ∧ b = i' ∧ e = j'
  · rw [if_pos h1, if_neg (by omega), if_pos h1]
  · rw [if_neg h1, if_neg h1]
theorem v_set_set (v : xV) {c i j x y : Nat} : v_set (v_set v c i j x) c i j y = v_set v c i j y := by
  funext a b e
  unfold v_set
  by_cases h1 : a = c ∧ b = i ∧ e = j
  · rw [if_pos h1, if_pos h1]
  · rw [if_neg h1, if_neg h1, if_neg h1]
theorem v_ws_cg {v w : xV} (h : ∀ c i j, c = 0 ∨ c = 2 ∨ c = 8 ∨ c = 9 ∨ c = 13 ∨ c = 14 → w c i j = v c i j) {c p : Nat} (hc : c = 13 ∨ c = 14) : ∀ k, v_ws w c p k = v_ws v c p k
  | 0 => rfl
  | k + 1 => by
    show v_ws w c p k + w c p k * w 9 k 0 = v_ws v c p k + v c p k * v 9 k 0
    rw [v_ws_cg h hc k, h c p k (by omega), h 9 k 0 (by omega)]
theorem v_os_cg {v w : xV} (h : ∀ c i j, c = 0 ∨ c = 2 ∨ c = 8 ∨ c = 9 ∨ c = 13 ∨ c = 14 → w c i j = v c i j) : ∀ p, v_os w p = v_os v p
  | 0 => h 8 0 0 (by omega)
  | p + 1 => by
    show v_os w p + (v_ws w 13 p (w 0 0 0) + v_ws w 14 p (w 0 0 0)) = v_os v p + (v_ws v 13 p (v 0 0 0) + v_ws v 14 p (v 0 0 0))
    rw [v_os_cg h p, v_ws_cg h (Or.inl rfl), v_ws_cg h (Or.inr rfl), h 0 0 0 (by omega)]
theorem v_out_cg {v w : xV} (h : ∀ c i j, c = 0 ∨ c = 2 ∨ c = 8 ∨ c = 9 ∨ c = 13 ∨ c = 14 → w c i j = v c i j) : v_out w = v_out v := by
  unfold v_out
  rw [v_os_cg h, h 2 0 0 (by omega)]
theorem v_out_set {v : xV} {c i j x : Nat} (h : c ≠ 0) (h2 : c ≠ 2) (h3 : c ≠ 8) (h4 : c ≠ 9) (h5 : c ≠ 13) (h6 : c ≠ 14) : v_out (v_set v c i j x) = v_out v := v_out_cg (fun a b e hh => v_set_c (by omega))
section C28
variable {f : Nat → Nat → Int32} {g : Nat → Nat → Int64} {r t : Nat} {ρ : Nat → Nat → Option Nat} {dm : List Nat} {n d N : Nat} {v : xV} {h : xH}
theorem m_told {x : Int32} (hM : v_M (f 501) 0 v) (hB : v_B v) : x_Ct 239 (d + 4) [.ref 500, .int x] (f, g, x_HR r t, dm, n) (x_PM f g (x_HR r t) dm n (sp_told v x)) := by
  unfold sp_told
  refine x_Ct_w (by decide) (Nat.le_of_ble_eq_true rfl) ok239 [] 9 ?_
  refine And.intro (fun c => ?_) (fun c => ?_)
  · have c : x < 0 := c
    rw [x_wi_f1 c]
    refine Exists.intro _ (And.intro m_refuse (And.intro (And.intro (Nat.zero_le _) (Nat.zero_le _)) (fun q h' hpo => ?_)))
    obtain ⟨rfl, rfl⟩ := hpo
    refine And.intro ?_ ⟨trivial, Nat.le_refl _, Nat.le_refl _⟩
    exact x_PM_0 hM
  · have c : ¬ x < 0 := c
    refine And.intro (fun c2 => ?_) (fun c2 => ?_)
    · have c2 : x ≤ 11 := c2
      have hz := x_wi_tt c c2
      rw [hz]
      obtain ⟨j, hj1, hj, rfl⟩ := x_wi_t (lo := 0) (hi := 11) hz (by decide) (by decide)
      rw [x_c, nI_clamp (by omega)]
      refine And.intro (fun c3 => ?_) (fun c3 => ?_)
      · have c3 : nI 8 ≤ nI j := c3
        rw [nI_leI (by decide) (by omega)] at c3
        refine And.intro (fun c4 => ?_) (fun c4 => ?_)
        · have c4 : ¬ nI j = nI 8 := c4
          rw [nI_eq (by omega) (by decide)] at c4
          have e : nI 8 + nI j - nI 9 = nI (j - 1) := by rw [nI_add, pk_sub (by omega)]; congr 1; omega
          refine And.intro (by show x_ix (nI 8 + nI j - nI 9) 3168; rw [e]; exact x_ix_nI (by omega) (by omega)) ?_
          refine Exists.intro _ (And.intro m_gives (And.intro (And.intro (Nat.zero_le _) (Nat.zero_le _)) (fun q h' hpo => ?_)))
          obtain ⟨rfl, rfl⟩ := hpo
          refine And.intro ?_ ⟨trivial, Nat.le_refl _, Nat.le_refl _⟩
          show x_PM f g (x_HR r t) dm n (.int (v_told v j), 0, v) (some (.int (f 501 (nI 8 + nI j - nI 9).toNatClampNeg))) _
          rw [e, nI_clamp (by omega)]
          obtain rfl | rfl | rfl : j = 9 ∨ j = 10 ∨ j = 11 := by omega
          · rw [show v_told v 9 = f 501 (9 - 1) from (v_M_at hM (c := 8) (i := 0) (j := 0) ⟨rfl, rfl⟩).symm]
            exact x_PM_0 hM
          · rw [show v_told v 10 = f 501 (10 - 1) from hM.2.1.symm]
            exact x_PM_0 hM
          · rw [show v_told v 11 = f 501 (11 - 1) from hM.2.2.symm]
            exact x_PM_0 hM
        · have c4 : nI j = nI 8 := c4
          rw [nI_eq (by omega) (by decide)] at c4
          subst c4
          refine Exists.intro _ (And.intro (m_out hM hB) (And.intro (And.intro (Nat.zero_le _) (Nat.zero_le _)) (fun q h' hpo => ?_)))
          obtain ⟨rfl, rfl⟩ := hpo
          refine Exists.intro _ (And.intro m_gives (And.intro (And.intro (Nat.zero_le _) (Nat.zero_le _)) (fun q h' hpo => ?_)))
          obtain ⟨rfl, rfl⟩ := hpo
          refine And.intro ?_ ⟨trivial, Nat.le_refl _, Nat.le_refl _⟩
          exact x_PM_0 hM
      · have c3 : ¬ nI 8 ≤ nI j := c3
        rw [nI_leI (by decide) (by omega)] at c3
        refine And.intro (x_ix_nI (by omega) (by omega)) ?_
        rw [nI_clamp (by omega)]
        refine Exists.intro _ (And.intro m_gives (And.intro (And.intro (Nat.zero_le _) (Nat.zero_le _)) (fun q h' hpo => ?_)))
        obtain ⟨rfl, rfl⟩ := hpo
        refine And.intro ?_ ⟨trivial, Nat.le_refl _, Nat.le_refl _⟩
        have e : v_told v j = f 501 j := by
          have e1 := v_M_at hM (c := j) (i := 0) (j := 0) (by unfold v_ok; rw [if_pos (by omega)]; exact ⟨rfl, rfl⟩)
          unfold v_pm at e1
          rw [if_pos (by omega)] at e1
          unfold v_told
          rw [if_pos (by omega), e1]
        rw [e]
        exact x_PM_0 hM
    · have c2 : ¬ x ≤ 11 := c2
      rw [x_wi_f2 c2]
      refine Exists.intro _ (And.intro m_refuse (And.intro (And.intro (Nat.zero_le _) (Nat.zero_le _)) (fun q h' hpo => ?_)))
      obtain ⟨rfl, rfl⟩ := hpo
      refine And.intro ?_ ⟨trivial, Nat.le_refl _, Nat.le_refl _⟩
      exact x_PM_0 hM
theorem m_kind {x : Int32} (hM : v_M (f 501) 0 v) (hB : v_B v) : x_Ct 240 (d + 2) [.ref 500, .int x] (f, g, x_HR r t, dm, n) (x_PM f g (x_HR r t) dm n (sp_kind v x)) := by
  have bK := v_B_K hB
  have bG := v_B_G hB
  have bP := v_B_P hB
  have o0 : v_ok v 0 0 0 := ⟨rfl, rfl⟩
  have h0 : f 501 0 = nI (v 0 0 0) := v_M_at hM o0
  have b0 : v 0 0 0 ≤ 4 := (hB.1 0 0 0 o0).2
  unfold sp_kind
  refine x_Ct_w (by decide) (Nat.le_of_ble_eq_true rfl) ok240 [] 4 ?_
  refine Exists.intro _ (And.intro (m_isKind h0 (by omega)) (And.intro (And.intro (Nat.zero_le _) (Nat.zero_le _)) (fun q h' hpo => ?_)))
  obtain ⟨rfl, rfl⟩ := hpo
  cases hb : x_ixb x (v 0 0 0) with
  | false =>
    refine And.intro (fun c => absurd rfl c) (fun _ => ?_)
    refine Exists.intro _ (And.intro m_refuse (And.intro (And.intro (Nat.zero_le _) (Nat.zero_le _)) (fun q h' hpo => ?_)))
    obtain ⟨rfl, rfl⟩ := hpo
    refine And.intro ?_ ⟨trivial, Nat.le_refl _, Nat.le_refl _⟩
    exact x_PM_0 hM
  | true =>
    refine And.intro (fun _ => ?_) (fun c => absurd c (by decide))
    obtain ⟨k, hk, rfl⟩ := x_ixb_t hb (by omega)
    have o9 : v_ok v 9 k 0 := show k < v 0 0 0 ∧ 0 = 0 from ⟨by omega, rfl⟩
    have h9 : f 501 (12 + k) = nI (v 9 k 0) := v_M_at hM o9
    have b9 : v 9 k 0 ≤ 500 := (hB.1 9 k 0 o9).2
    have l9 : 1 ≤ v 9 k 0 := (hB.1 9 k 0 o9).1
    rw [x_c, nI_clamp (by omega)]
    refine Exists.intro _ (And.intro (m_worthV (w := v 9 k 0) (by omega) h9) (And.intro (And.intro (Nat.zero_le _) (Nat.zero_le _)) (fun q h' hpo => ?_)))
    obtain ⟨rfl, rfl⟩ := hpo
    refine Exists.intro _ (And.intro m_gives (And.intro (And.intro (Nat.zero_le _) (Nat.zero_le _)) (fun q h' hpo => ?_)))
    obtain ⟨rfl, rfl⟩ := hpo
    refine And.intro ?_ ⟨trivial, Nat.le_refl _, Nat.le_refl _⟩
    exact x_PM_0 hM
theorem m_priceOf {i : Nat} (hM : v_M (f 501) 0 v) (hB : v_B v) (hi : i < v 1 0 0) : x_V 237 (d + 1) [.ref 500, .int (nI i)] (f, g, x_HR r t, dm, n) (.long (lN (v 10 i 0 * v 7 0 0))) (f, g, x_HR r t, dm, n) := by
  have bK := v_B_K hB
  have bG := v_B_G hB
  have bP := v_B_P hB
  have o10 : v_ok v 10 i 0 := show i < v 1 0 0 ∧ 0 = 0 from ⟨by omega, rfl⟩
  have h10 : f 501 (16 + 2 * i) = nI (v 10 i 0) := v_M_at hM o10
  have b10 : v 10 i 0 ≤ 99 := (hB.1 10 i 0 o10).2
  have l10 : 1 ≤ v 10 i 0 := (hB.1 10 i 0 o10).1
  have o7 : v_ok v 7 0 0 := ⟨rfl, rfl⟩
  have h7 : f 501 7 = nI (v 7 0 0) := v_M_at hM o7
  have b7 : v 7 0 0 ≤ 21000000 := (hB.1 7 0 0 o7).2
  have l7 : 1 ≤ v 7 0 0 := (hB.1 7 0 0 o7).1
  refine x_Ct_w (by decide) (Nat.le_of_ble_eq_true rfl) ok237 [] 2 ?_
  refine Exists.intro _ (And.intro m_goodRow (And.intro (And.intro (Nat.zero_le _) (Nat.zero_le _)) (fun q h' hpo => ?_)))
  obtain ⟨rfl, rfl⟩ := hpo
  refine And.intro (x_ix_nI (by omega) (by omega)) ?_
  rw [nI_clamp (by omega)]
  refine And.intro (x_ix_nI (j := 7) (by decide) (by decide)) ?_
  exact And.intro ⟨(by show some (Value.long ((f 501 (16 + 2 * i)).toInt64 * (f 501 7).toInt64)) = _; rw [h10, h7, nI_l (by omega), nI_l (by omega), lN_mul]), rfl⟩ ⟨trivial, Nat.le_refl _, Nat.le_refl _⟩
theorem m_good {x y : Int32} (hM : v_M (f 501) 0 v) (hB : v_B v) : x_Ct 241 (d + 3) [.ref 500, .int x, .int y] (f, g, x_HR r t, dm, n) (x_PM f g (x_HR r t) dm n (sp_good v x y)) := by
  have bK := v_B_K hB
  have bG := v_B_G hB
  have bP := v_B_P hB
  have o1 : v_ok v 1 0 0 := ⟨rfl, rfl⟩
  have h1 : f 501 1 = nI (v 1 0 0) := v_M_at hM o1
  have b1 : v 1 0 0 ≤ 5 := (hB.1 1 0 0 o1).2
  unfold sp_good
  refine x_Ct_w (by decide) (Nat.le_of_ble_eq_true rfl) ok241 [] 9 ?_
  refine Exists.intro _ (And.intro (m_isGood h1 (by omega)) (And.intro (And.intro (Nat.zero_le _) (Nat.zero_le _)) (fun q h' hpo => ?_)))
  obtain ⟨rfl, rfl⟩ := hpo
  cases hb : x_ixb x (v 1 0 0) with
  | false =>
    refine And.intro (fun _ => ?_) (fun c => absurd rfl c)
    refine Exists.intro _ (And.intro m_refuse (And.intro (And.intro (Nat.zero_le _) (Nat.zero_le _)) (fun q h' hpo => ?_)))
    obtain ⟨rfl, rfl⟩ := hpo
    refine And.intro ?_ ⟨trivial, Nat.le_refl _, Nat.le_refl _⟩
    exact x_PM_0 hM
  | true =>
    refine And.intro (fun c => absurd c (by decide)) (fun _ => ?_)
    refine And.intro (fun c => ?_) (fun c => ?_)
    · have c : y < 0 := c
      rw [x_wi_f1 c]
      refine Exists.intro _ (And.intro m_refuse (And.intro (And.intro (Nat.zero_le _) (Nat.zero_le _)) (fun q h' hpo => ?_)))
      obtain ⟨rfl, rfl⟩ := hpo
      refine And.intro ?_ ⟨trivial, Nat.le_refl _, Nat.le_refl _⟩
      exact x_PM_0 hM
    · have c : ¬ y < 0 := c
      refine And.intro (fun c2 => ?_) (fun c2 => ?_)
      · have c2 : y ≤ 2 := c2
        have hz := x_wi_tt c c2
        rw [hz]
        obtain ⟨i, hi, rfl⟩ := x_ixb_t hb (by omega)
        obtain ⟨j, hj1, hj, rfl⟩ := x_wi_t (lo := 0) (hi := 2) hz (by decide) (by decide)
        have o10 : v_ok v 10 i 0 := show i < v 1 0 0 ∧ 0 = 0 from ⟨by omega, rfl⟩
        have h10 : f 501 (16 + 2 * i) = nI (v 10 i 0) := v_M_at hM o10
        have b10 : v 10 i 0 ≤ 99 := (hB.1 10 i 0 o10).2
        have l10 : 1 ≤ v 10 i 0 := (hB.1 10 i 0 o10).1
        have o11 : v_ok v 11 i 0 := show i < v 1 0 0 ∧ 0 = 0 from ⟨by omega, rfl⟩
        have h11 : f 501 (17 + 2 * i) = nI (v 11 i 0) := v_M_at hM o11
        have b11 : v 11 i 0 ≤ 9999 := (hB.1 11 i 0 o11).2
        rw [x_c, x_c, nI_clamp (by omega), nI_clamp (by omega)]
        unfold v_good
        refine And.intro (fun c3 => ?_) (fun c3 => ?_)
        · have c3 : ¬ nI j = nI 2 := c3
          rw [nI_eq (by omega) (by decide)] at c3
          refine Exists.intro _ (And.intro m_goodRow (And.intro (And.intro (Nat.zero_le _) (Nat.zero_le _)) (fun q h' hpo => ?_)))
          obtain ⟨rfl, rfl⟩ := hpo
          refine And.intro (by rw [nI_add]; exact x_ix_nI (by omega) (by omega)) ?_
          refine Exists.intro _ (And.intro m_gives (And.intro (And.intro (Nat.zero_le _) (Nat.zero_le _)) (fun q h' hpo => ?_)))
          obtain ⟨rfl, rfl⟩ := hpo
          refine And.intro ?_ ⟨trivial, Nat.le_refl _, Nat.le_refl _⟩
          show x_PM f g (x_HR r t) dm n _ (some (.int (f 501 (nI (16 + 2 * i) + nI j).toNatClampNeg))) _
          rw [nI_add, nI_clamp (by omega)]
          obtain rfl | rfl : j = 0 ∨ j = 1 := by omega
          · rw [if_pos rfl, ← h10]
            exact x_PM_0 hM
          · rw [if_neg (by decide), if_pos rfl, ← h11, show 16 + 2 * i + 1 = 17 + 2 * i by omega]
            exact x_PM_0 hM
        · have c3 : nI j = nI 2 := c3
          rw [nI_eq (by omega) (by decide)] at c3
          subst c3
          rw [if_neg (by decide), if_neg (by decide)]
          refine Exists.intro _ (And.intro (m_priceOf hM hB hi) (And.intro (And.intro (Nat.zero_le _) (Nat.zero_le _)) (fun q h' hpo => ?_)))
          obtain ⟨rfl, rfl⟩ := hpo
          refine Exists.intro _ (And.intro m_gives (And.intro (And.intro (Nat.zero_le _) (Nat.zero_le _)) (fun q h' hpo => ?_)))
          obtain ⟨rfl, rfl⟩ := hpo
          refine And.intro ?_ ⟨trivial, Nat.le_refl _, Nat.le_refl _⟩
          rw [← lN_i]
          exact x_PM_0 hM
      · have c2 : ¬ y ≤ 2 := c2
        rw [x_wi_f2 c2]
        refine Exists.intro _ (And.intro m_refuse (And.intro (And.intro (Nat.zero_le _) (Nat.zero_le _)) (fun q h' hpo => ?_)))
        obtain ⟨rfl, rfl⟩ := hpo
        refine And.intro ?_ ⟨trivial, Nat.le_refl _, Nat.le_refl _⟩
        exact x_PM_0 hM
theorem m_sheets {x y z : Int32} (hM : v_M (f 501) 0 v) (hB : v_B v) : x_Ct 242 (d + 3) [.ref 500, .int x, .int y, .int z] (f, g, x_HR r t, dm, n) (x_PM f g (x_HR r t) dm n (sp_sheets v x y z)) := by
  have bK := v_B_K hB
  have bG := v_B_G hB
  have bP := v_B_P hB
  have o0 : v_ok v 0 0 0 := ⟨rfl, rfl⟩
  have h0 : f 501 0 = nI (v 0 0 0) := v_M_at hM o0
  have b0 : v 0 0 0 ≤ 4 := (hB.1 0 0 0 o0).2
  have o2 : v_ok v 2 0 0 := ⟨rfl, rfl⟩
  have h2 : f 501 2 = nI (v 2 0 0) := v_M_at hM o2
  have b2 : v 2 0 0 ≤ 5 := (hB.1 2 0 0 o2).2
  unfold sp_sheets
  refine x_Ct_w (by decide) (Nat.le_of_ble_eq_true rfl) ok242 [] 9 ?_
  refine Exists.intro _ (And.intro (m_isSheet h0 (by omega) h2 (by omega)) (And.intro (And.intro (Nat.zero_le _) (Nat.zero_le _)) (fun q h' hpo => ?_)))
  obtain ⟨rfl, rfl⟩ := hpo
  cases hb : (x_ixb x (v 2 0 0) && x_ixb y (v 0 0 0)) with
  | false =>
    refine And.intro (fun _ => ?_) (fun c => absurd rfl c)
    refine Exists.intro _ (And.intro m_refuse (And.intro (And.intro (Nat.zero_le _) (Nat.zero_le _)) (fun q h' hpo => ?_)))
    obtain ⟨rfl, rfl⟩ := hpo
    refine And.intro ?_ ⟨trivial, Nat.le_refl _, Nat.le_refl _⟩
    exact x_PM_0 hM
  | true =>
    refine And.intro (fun c => absurd c (by decide)) (fun _ => ?_)
    rw [Bool.and_eq_true] at hb
    obtain ⟨p, hp, rfl⟩ := x_ixb_t hb.1 (by omega)
    obtain ⟨k, hk, rfl⟩ := x_ixb_t hb.2 (by omega)
    have o13 : v_ok v 13 p k := show p < v 2 0 0 ∧ k < v 0 0 0 from ⟨by omega, by omega⟩
    have h13 : f 501 (27 + 14 * p + k) = nI (v 13 p k) := v_M_at hM o13
    have b13 : v 13 p k ≤ 9999 := (hB.1 13 p k o13).2
    have o14 : v_ok v 14 p k := show p < v 2 0 0 ∧ k < v 0 0 0 from ⟨by omega, by omega⟩
    have h14 : f 501 (31 + 14 * p + k) = nI (v 14 p k) := v_M_at hM o14
    have b14 : v 14 p k ≤ 9999 := (hB.1 14 p k o14).2
    rw [show x_c (nI p) = p from nI_clamp (by omega), show x_c (nI k) = k from nI_clamp (by omega)]
    refine And.intro (fun c => ?_) (fun c => ?_)
    · have c : z = 0 := c
      subst c
      refine And.intro (fun c => absurd rfl c) (fun _ => ?_)
      refine Exists.intro _ (And.intro m_wholeAt (And.intro (And.intro (Nat.zero_le _) (Nat.zero_le _)) (fun q h' hpo => ?_)))
      obtain ⟨rfl, rfl⟩ := hpo
      refine And.intro (x_ix_nI (by omega) (by omega)) ?_
      rw [nI_clamp (by omega)]
      refine Exists.intro _ (And.intro m_gives (And.intro (And.intro (Nat.zero_le _) (Nat.zero_le _)) (fun q h' hpo => ?_)))
      obtain ⟨rfl, rfl⟩ := hpo
      refine And.intro ?_ ⟨trivial, Nat.le_refl _, Nat.le_refl _⟩
      rw [if_pos (show x_c 0 = 0 from rfl), ← h13]
      exact x_PM_0 hM
    · have c : ¬ z = 0 := c
      refine And.intro (fun c2 => ?_) (fun c2 => ?_)
      · have c2 : z = 1 := c2
        subst c2
        refine And.intro (fun _ => ?_) (fun c => absurd (show (1 : Int32) = 0 from c) (by decide))
        refine Exists.intro _ (And.intro m_tornAt (And.intro (And.intro (Nat.zero_le _) (Nat.zero_le _)) (fun q h' hpo => ?_)))
        obtain ⟨rfl, rfl⟩ := hpo
        refine And.intro (x_ix_nI (by omega) (by omega)) ?_
        rw [nI_clamp (by omega)]
        refine Exists.intro _ (And.intro m_gives (And.intro (And.intro (Nat.zero_le _) (Nat.zero_le _)) (fun q h' hpo => ?_)))
        obtain ⟨rfl, rfl⟩ := hpo
        refine And.intro ?_ ⟨trivial, Nat.le_refl _, Nat.le_refl _⟩
        rw [if_neg (by decide), ← h14]
        exact x_PM_0 hM
      · have c2 : ¬ z = 1 := c2
        cases hz : x_wi z 0 1 with
        | true => exact absurd (x_wi_01 hz) (by simp only [not_or]; exact ⟨c, c2⟩)
        | false =>
          refine Exists.intro _ (And.intro m_refuse (And.intro (And.intro (Nat.zero_le _) (Nat.zero_le _)) (fun q h' hpo => ?_)))
          obtain ⟨rfl, rfl⟩ := hpo
          refine And.intro ?_ ⟨trivial, Nat.le_refl _, Nat.le_refl _⟩
          exact x_PM_0 hM
theorem m_worth {x y : Int32} (hM : v_M (f 501) 0 v) (hB : v_B v) : x_Ct 245 (d + 3) [.ref 500, .int x, .int y] (f, g, x_HR r t, dm, n) (x_PM f g (x_HR r t) dm n (sp_worth v x y)) := by
  have bK := v_B_K hB
  have bG := v_B_G hB
  have bP := v_B_P hB
  have o2 : v_ok v 2 0 0 := ⟨rfl, rfl⟩
  have h2 : f 501 2 = nI (v 2 0 0) := v_M_at hM o2
  have b2 : v 2 0 0 ≤ 5 := (hB.1 2 0 0 o2).2
  unfold sp_worth
  refine x_Ct_w (by decide) (Nat.le_of_ble_eq_true rfl) ok245 [] 9 ?_
  refine Exists.intro _ (And.intro (m_isPerson h2 (by omega)) (And.intro (And.intro (Nat.zero_le _) (Nat.zero_le _)) (fun q h' hpo => ?_)))
  obtain ⟨rfl, rfl⟩ := hpo
  cases hb : x_ixb x (v 2 0 0) with
  | false =>
    refine And.intro (fun _ => ?_) (fun c => absurd rfl c)
    refine Exists.intro _ (And.intro m_refuse (And.intro (And.intro (Nat.zero_le _) (Nat.zero_le _)) (fun q h' hpo => ?_)))
    obtain ⟨rfl, rfl⟩ := hpo
    refine And.intro ?_ ⟨trivial, Nat.le_refl _, Nat.le_refl _⟩
    exact x_PM_0 hM
  | true =>
    refine And.intro (fun c => absurd c (by decide)) (fun _ => ?_)
    obtain ⟨p, hp, rfl⟩ := x_ixb_t hb (by omega)
    rw [show x_c (nI p) = p from nI_clamp (by omega)]
    refine And.intro (fun c => ?_) (fun c => ?_)
    · have c : y = 0 := c
      subst c
      refine And.intro (fun c => absurd rfl c) (fun _ => ?_)
      refine Exists.intro _ (And.intro (m_wholeAt (k := 0)) (And.intro (And.intro (Nat.zero_le _) (Nat.zero_le _)) (fun q h' hpo => ?_)))
      obtain ⟨rfl, rfl⟩ := hpo
      refine Exists.intro _ (And.intro (m_wholeWorth hM hB hp) (And.intro (And.intro (Nat.zero_le _) (Nat.zero_le _)) (fun q h' hpo => ?_)))
      obtain ⟨rfl, rfl⟩ := hpo
      refine Exists.intro _ (And.intro m_gives (And.intro (And.intro (Nat.zero_le _) (Nat.zero_le _)) (fun q h' hpo => ?_)))
      obtain ⟨rfl, rfl⟩ := hpo
      refine And.intro ?_ ⟨trivial, Nat.le_refl _, Nat.le_refl _⟩
      rw [if_pos (show x_c 0 = 0 from rfl)]
      exact x_PM_0 hM
    · have c : ¬ y = 0 := c
      refine And.intro (fun c2 => ?_) (fun c2 => ?_)
      · have c2 : y = 1 := c2
        subst c2
        refine And.intro (fun _ => ?_) (fun c => absurd (show (1 : Int32) = 0 from c) (by decide))
        refine Exists.intro _ (And.intro (m_tornAt (k := 0)) (And.intro (And.intro (Nat.zero_le _) (Nat.zero_le _)) (fun q h' hpo => ?_)))
        obtain ⟨rfl, rfl⟩ := hpo
        refine Exists.intro _ (And.intro (m_tornWorth hM hB hp) (And.intro (And.intro (Nat.zero_le _) (Nat.zero_le _)) (fun q h' hpo => ?_)))
        obtain ⟨rfl, rfl⟩ := hpo
        refine Exists.intro _ (And.intro m_gives (And.intro (And.intro (Nat.zero_le _) (Nat.zero_le _)) (fun q h' hpo => ?_)))
        obtain ⟨rfl, rfl⟩ := hpo
        refine And.intro ?_ ⟨trivial, Nat.le_refl _, Nat.le_refl _⟩
        rw [if_neg (by decide)]
        exact x_PM_0 hM
      · have c2 : ¬ y = 1 := c2
        cases hz : x_wi y 0 1 with
        | true => exact absurd (x_wi_01 hz) (by simp only [not_or]; exact ⟨c, c2⟩)
        | false =>
          refine Exists.intro _ (And.intro m_refuse (And.intro (And.intro (Nat.zero_le _) (Nat.zero_le _)) (fun q h' hpo => ?_)))
          obtain ⟨rfl, rfl⟩ := hpo
          refine And.intro ?_ ⟨trivial, Nat.le_refl _, Nat.le_refl _⟩
          exact x_PM_0 hM
theorem m_goods {x y : Int32} (hM : v_M (f 501) 0 v) (hB : v_B v) : x_Ct 243 (d + 3) [.ref 500, .int x, .int y] (f, g, x_HR r t, dm, n) (x_PM f g (x_HR r t) dm n (sp_goods v x y)) := by
  have bK := v_B_K hB
  have bG := v_B_G hB
  have bP := v_B_P hB
  have o1 : v_ok v 1 0 0 := ⟨rfl, rfl⟩
  have h1 : f 501 1 = nI (v 1 0 0) := v_M_at hM o1
  have b1 : v 1 0 0 ≤ 5 := (hB.1 1 0 0 o1).2
  have o2 : v_ok v 2 0 0 := ⟨rfl, rfl⟩
  have h2 : f 501 2 = nI (v 2 0 0) := v_M_at hM o2
  have b2 : v 2 0 0 ≤ 5 := (hB.1 2 0 0 o2).2
  unfold sp_goods
  refine x_Ct_w (by decide) (Nat.le_of_ble_eq_true rfl) ok243 [] 4 ?_
  refine Exists.intro _ (And.intro (m_isWare h1 (by omega) h2 (by omega)) (And.intro (And.intro (Nat.zero_le _) (Nat.zero_le _)) (fun q h' hpo => ?_)))
  obtain ⟨rfl, rfl⟩ := hpo
  cases hb : (x_ixb x (v 2 0 0) && x_ixb y (v 1 0 0)) with
  | false =>
    refine And.intro (fun c => absurd rfl c) (fun _ => ?_)
    refine Exists.intro _ (And.intro m_refuse (And.intro (And.intro (Nat.zero_le _) (Nat.zero_le _)) (fun q h' hpo => ?_)))
    obtain ⟨rfl, rfl⟩ := hpo
    refine And.intro ?_ ⟨trivial, Nat.le_refl _, Nat.le_refl _⟩
    exact x_PM_0 hM
  | true =>
    refine And.intro (fun _ => ?_) (fun c => absurd c (by decide))
    rw [Bool.and_eq_true] at hb
    obtain ⟨p, hp, rfl⟩ := x_ixb_t hb.1 (by omega)
    obtain ⟨i, hi, rfl⟩ := x_ixb_t hb.2 (by omega)
    have o15 : v_ok v 15 p i := show 15 = 15 ∧ p < v 2 0 0 ∧ i < v 1 0 0 from ⟨rfl, by omega, by omega⟩
    have h15 : f 501 (35 + 14 * p + i) = nI (v 15 p i) := v_M_at hM o15
    have b15 : v 15 p i ≤ 9999 := (hB.1 15 p i o15).2
    have e : nI (26 + 14 * p) + nI 9 + nI i = nI (35 + 14 * p + i) := by rw [nI_add, nI_add]; congr 1; omega
    rw [x_c, x_c, nI_clamp (by omega), nI_clamp (by omega)]
    refine Exists.intro _ (And.intro m_personRow (And.intro (And.intro (Nat.zero_le _) (Nat.zero_le _)) (fun q h' hpo => ?_)))
    obtain ⟨rfl, rfl⟩ := hpo
    refine And.intro (by show x_ix (nI (26 + 14 * p) + nI 9 + nI i) 3168; rw [e]; exact x_ix_nI (by omega) (by omega)) ?_
    refine Exists.intro _ (And.intro m_gives (And.intro (And.intro (Nat.zero_le _) (Nat.zero_le _)) (fun q h' hpo => ?_)))
    obtain ⟨rfl, rfl⟩ := hpo
    refine And.intro ?_ ⟨trivial, Nat.le_refl _, Nat.le_refl _⟩
    show x_PM f g (x_HR r t) dm n _ (some (.int (f 501 (nI (26 + 14 * p) + nI 9 + nI i).toNatClampNeg))) _
    rw [e, nI_clamp (by omega), ← h15]
    exact x_PM_0 hM
theorem m_silver {x : Int32} (hM : v_M (f 501) 0 v) (hB : v_B v) : x_Ct 244 (d + 2) [.ref 500, .int x] (f, g, x_HR r t, dm, n) (x_PM f g (x_HR r t) dm n (sp_silver v x)) := by
  have bK := v_B_K hB
  have bG := v_B_G hB
  have bP := v_B_P hB
  have o2 : v_ok v 2 0 0 := ⟨rfl, rfl⟩
  have h2 : f 501 2 = nI (v 2 0 0) := v_M_at hM o2
  have b2 : v 2 0 0 ≤ 5 := (hB.1 2 0 0 o2).2
  unfold sp_silver
  refine x_Ct_w (by decide) (Nat.le_of_ble_eq_true rfl) ok244 [] 4 ?_
  refine Exists.intro _ (And.intro (m_isPerson h2 (by omega)) (And.intro (And.intro (Nat.zero_le _) (Nat.zero_le _)) (fun q h' hpo => ?_)))
  obtain ⟨rfl, rfl⟩ := hpo
  cases hb : x_ixb x (v 2 0 0) with
  | false =>
    refine And.intro (fun c => absurd rfl c) (fun _ => ?_)
    refine Exists.intro _ (And.intro m_refuse (And.intro (And.intro (Nat.zero_le _) (Nat.zero_le _)) (fun q h' hpo => ?_)))
    obtain ⟨rfl, rfl⟩ := hpo
    refine And.intro ?_ ⟨trivial, Nat.le_refl _, Nat.le_refl _⟩
    exact x_PM_0 hM
  | true =>
    refine And.intro (fun _ => ?_) (fun c => absurd c (by decide))
    obtain ⟨p, hp, rfl⟩ := x_ixb_t hb (by omega)
    have o12 : v_ok v 12 p 0 := show p < v 2 0 0 ∧ 0 = 0 from ⟨by omega, rfl⟩
    have h12 : f 501 (26 + 14 * p) = nI (v 12 p 0) := v_M_at hM o12
    have b12 : v 12 p 0 ≤ 99999 := (hB.1 12 p 0 o12).2
    rw [x_c, nI_clamp (by omega)]
    refine Exists.intro _ (And.intro m_personRow (And.intro (And.intro (Nat.zero_le _) (Nat.zero_le _)) (fun q h' hpo => ?_)))
    obtain ⟨rfl, rfl⟩ := hpo
    refine And.intro (x_ix_nI (by omega) (by omega)) ?_
    rw [nI_clamp (by omega)]
    refine Exists.intro _ (And.intro m_gives (And.intro (And.intro (Nat.zero_le _) (Nat.zero_le _)) (fun q h' hpo => ?_)))
    obtain ⟨rfl, rfl⟩ := hpo
    refine And.intro ?_ ⟨trivial, Nat.le_refl _, Nat.le_refl _⟩
    rw [← h12]
    exact x_PM_0 hM
theorem m_orNone {w : Int32} : x_V 182 (d + 1) [.ref 500, .int w] (f, g, ρ, dm, n) (.int w) (x_up f 500 2 (if w = -1 then 6 else 0), g, ρ, dm, n) := by
  refine x_Ct_w (by decide) (Nat.le_of_ble_eq_true rfl) ok182 [] 4 ?_
  refine And.intro (fun c => ?_) (fun c => ?_)
  · have c : ¬ w = -1 := c
    rw [if_neg c]
    refine Exists.intro _ (And.intro m_gives (And.intro (And.intro (Nat.zero_le _) (Nat.zero_le _)) (fun q h' hpo => ?_)))
    obtain ⟨rfl, rfl⟩ := hpo
    exact And.intro ⟨rfl, rfl⟩ ⟨trivial, Nat.le_refl _, Nat.le_refl _⟩
  · have c : w = -1 := c
    subst c
    refine Exists.intro _ (And.intro m_refuse (And.intro (And.intro (Nat.zero_le _) (Nat.zero_le _)) (fun q h' hpo => ?_)))
    obtain ⟨rfl, rfl⟩ := hpo
    exact And.intro ⟨rfl, rfl⟩ ⟨trivial, Nat.le_refl _, Nat.le_refl _⟩
theorem m_richest (hM : v_M (f 501) 0 v) (hB : v_B v) : x_Ct 246 (d + 3) [.ref 500] (f, g, x_HR r t, dm, n) (x_PM f g (x_HR r t) dm n (sp_richest v)) := by
  have bK := v_B_K hB
  have bG := v_B_G hB
  have bP := v_B_P hB
  have o2 : v_ok v 2 0 0 := ⟨rfl, rfl⟩
  have h2 : f 501 2 = nI (v 2 0 0) := v_M_at hM o2
  have b2 : v 2 0 0 ≤ 5 := (hB.1 2 0 0 o2).2
  have loop : ∀ m p, p + m = v 2 0 0 → x_J 246 (d + 3) (x_PM f g (x_HR r t) dm n (sp_richest v)) 4 [some (.ref 500), some (.int (if p = 0 then -1 else nI (v_rich v p))), some (.int (nI p))] [] (f, g, x_HR r t, dm, n) 0 0 := by
    intro m
    induction m with
    | zero =>
      intro p hp
      refine x_wp_ok ok246 [4] 5 ?_
      refine And.intro (x_ix_nI (j := 2) (by decide) (by decide)) ?_
      refine And.intro (fun c => ?_) (fun c => ?_)
      · rw [Nat.add_zero] at hp
        subst hp
        refine Exists.intro _ (And.intro m_orNone (And.intro (And.intro (Nat.zero_le _) (Nat.zero_le _)) (fun q h' hpo => ?_)))
        obtain ⟨rfl, rfl⟩ := hpo
        refine And.intro ?_ ⟨trivial, Nat.le_refl _, Nat.le_refl _⟩
        unfold sp_richest
        by_cases h0 : v 2 0 0 = 0
        · rw [if_pos h0, if_pos h0]
          exact x_PM_0 hM
        · have := v_rich_lt v (v 2 0 0) (by omega)
          rw [if_neg h0, if_neg h0, if_neg (x_nIm (by omega))]
          exact x_PM_0 hM
      · have c : ¬ f 501 2 ≤ nI p := c
        rw [h2] at c
        exact absurd (nI_le (by omega) (by omega)) c
    | succ m ih =>
      intro p hp
      have e := ih (p + 1) (by omega)
      rw [if_neg (by omega), nI_succ p, show v_rich v (p + 1) = if p = 0 then 0 else if v_ws v 13 (v_rich v p) (v 0 0 0) < v_ws v 13 p (v 0 0 0) then p else v_rich v p from rfl] at e
      refine x_wp_ok ok246 [4] 5 ?_
      refine And.intro (x_ix_nI (j := 2) (by decide) (by decide)) ?_
      refine And.intro (fun c => ?_) (fun c => ?_)
      · have c : f 501 2 ≤ nI p := c
        rw [h2] at c
        exact absurd c (nI_ge (by omega) (by omega))
      · by_cases h0 : p = 0
        · subst h0
          refine And.intro (fun c => ?_) (fun c => ?_)
          · exact e
          · exact absurd rfl c
        · rw [if_neg h0]
          rw [if_neg h0] at e
          have hr := v_rich_lt v p (by omega)
          have w1 := v_ws_le4 hB (c := 13) (Or.inl rfl) (show p < v 2 0 0 by omega)
          have w2 := v_ws_le4 hB (c := 13) (Or.inl rfl) (show v_rich v p < v 2 0 0 by omega)
          refine And.intro (fun c => absurd c (x_nIm (by omega))) (fun _ => ?_)
          refine Exists.intro _ (And.intro (m_wholeAt (k := 0)) (And.intro (And.intro (Nat.zero_le _) (Nat.zero_le _)) (fun q h' hpo => ?_)))
          obtain ⟨rfl, rfl⟩ := hpo
          refine Exists.intro _ (And.intro (m_wholeWorth hM hB (by omega)) (And.intro (And.intro (Nat.zero_le _) (Nat.zero_le _)) (fun q h' hpo => ?_)))
          obtain ⟨rfl, rfl⟩ := hpo
          refine Exists.intro _ (And.intro (m_wholeAt (k := 0)) (And.intro (And.intro (Nat.zero_le _) (Nat.zero_le _)) (fun q h' hpo => ?_)))
          obtain ⟨rfl, rfl⟩ := hpo
          refine Exists.intro _ (And.intro (m_wholeWorth hM hB (by omega)) (And.intro (And.intro (Nat.zero_le _) (Nat.zero_le _)) (fun q h' hpo => ?_)))
          obtain ⟨rfl, rfl⟩ := hpo
          refine And.intro (fun c => ?_) (fun c => ?_)
          · have c : nI (v_ws v 13 p (v 0 0 0)) ≤ nI (v_ws v 13 (v_rich v p) (v 0 0 0)) := c
            rw [nI_leI (by omega) (by omega)] at c
            rw [if_neg (by omega)] at e
            exact e
          · have c : ¬ nI (v_ws v 13 p (v 0 0 0)) ≤ nI (v_ws v 13 (v_rich v p) (v 0 0 0)) := c
            rw [nI_leI (by omega) (by omega)] at c
            rw [if_pos (by omega)] at e
            exact e
  exact x_Ct_w (by decide) (Nat.le_of_ble_eq_true rfl) ok246 [4] 3 (loop (v 2 0 0) 0 (Nat.zero_add _))
end C28
