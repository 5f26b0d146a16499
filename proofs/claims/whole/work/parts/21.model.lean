/-! THE MODEL: its small methods -/
theorem v_M_at {a : Nat → Int32} {v : xV} (h : v_M a 0 v) {c i j : Nat} (hv : v_ok v c i j) : a (v_pm c i j) = nI (v c i j) := by
  have := h.1 c i j hv
  rwa [Nat.zero_add] at this
theorem v_M_s0 {a : Nat → Int32} {v : xV} (h : v_M a 0 v) (hB : v_B v) {c i j x : Nat} (hv : v_ok v c i j) (hc : 3 ≤ c) : v_M (va_up a (v_pm c i j) (nI x)) 0 (v_set v c i j x) := by
  have := v_M_set h (v_B_K hB) (v_B_G hB) (v_B_P hB) hv hc (x := x)
  rwa [Nat.zero_add] at this
theorem x_lg_lt {x y : Int64} : lg_cmp x y < 0 ↔ x < y := by
  unfold lg_cmp
  by_cases h1 : x > y
  · rw [if_pos h1]
    exact ⟨fun h => absurd h (by decide), fun h => absurd (Int64.lt_trans h h1) (Int64.lt_irrefl)⟩
  · rw [if_neg h1]
    by_cases h2 : x = y
    · rw [if_pos h2, h2]
      exact ⟨fun h => absurd h (by decide), fun h => absurd h (Int64.lt_irrefl)⟩
    · rw [if_neg h2]
      refine ⟨fun _ => ?_, fun _ => by decide⟩
      rw [Int64.lt_iff_toInt_lt]
      rw [gt_iff_lt, Int64.lt_iff_toInt_lt] at h1
      have h3 : x.toInt ≠ y.toInt := fun e => h2 (Int64.toInt_inj.mp e)
      omega
theorem x_lg_gt {x y : Int64} : 0 < lg_cmp x y ↔ y < x := by
  unfold lg_cmp
  by_cases h1 : x > y
  · rw [if_pos h1]
    exact ⟨fun _ => h1, fun _ => by decide⟩
  · rw [if_neg h1]
    by_cases h2 : x = y
    · rw [if_pos h2]
      exact ⟨fun h => absurd h (by decide), fun h => absurd h h1⟩
    · rw [if_neg h2]
      exact ⟨fun h => absurd h (by decide), fun h => absurd h h1⟩
/-- least ≤ value ≤ most, in longs -/
def x_wl (x lo hi : Int64) : Bool := decide (lo.toInt ≤ x.toInt) && decide (x.toInt ≤ hi.toInt)
section C21
variable {f : Nat → Nat → Int32} {g : Nat → Nat → Int64} {r t : Nat} {dm : List Nat} {n d : Nat} {v : xV} {h : xH}
theorem m_isFrom {x lo hi : Int64} : x_V 191 d [.long x, .long lo, .long hi] h (.int (x_bo (x_wl x lo hi))) h := by
  refine x_Ct_w (by decide) (Nat.le_of_ble_eq_true rfl) ok191 [] 4 ?_
  refine And.intro (fun c => ?_) (fun c => ?_)
  · have c : lg_cmp x lo < 0 := c
    rw [x_lg_lt, Int64.lt_iff_toInt_lt] at c
    have hb : x_wl x lo hi = false := by simp only [x_wl, Bool.and_eq_false_iff, decide_eq_false_iff_not]; omega
    exact And.intro ⟨(by rw [hb]; rfl), rfl⟩ ⟨Or.inl rfl, Nat.le_refl _, Nat.le_refl _⟩
  · have c : ¬ lg_cmp x lo < 0 := c
    rw [x_lg_lt, Int64.lt_iff_toInt_lt] at c
    refine And.intro (fun c2 => ?_) (fun c2 => ?_)
    · have c2 : 0 < lg_cmp x hi := c2
      rw [x_lg_gt, Int64.lt_iff_toInt_lt] at c2
      have hb : x_wl x lo hi = false := by simp only [x_wl, Bool.and_eq_false_iff, decide_eq_false_iff_not]; omega
      exact And.intro ⟨(by rw [hb]; rfl), rfl⟩ ⟨Or.inl rfl, Nat.le_refl _, Nat.le_refl _⟩
    · have c2 : ¬ 0 < lg_cmp x hi := c2
      rw [x_lg_gt, Int64.lt_iff_toInt_lt] at c2
      have hb : x_wl x lo hi = true := by simp only [x_wl, Bool.and_eq_true, decide_eq_true_eq]; omega
      exact And.intro ⟨(by rw [hb]; rfl), rfl⟩ ⟨Or.inr rfl, Nat.le_refl _, Nat.le_refl _⟩
theorem x_wl_wi {x : Int32} {lo hi : Int64} {lo' hi' : Int32} (h1 : lo.toInt = lo'.toInt) (h2 : hi.toInt = hi'.toInt) : x_wl x.toInt64 lo hi = x_wi x lo' hi' := by
  unfold x_wl x_wi
  rw [Int32.toInt_toInt64, h1, h2]
theorem m_isMany {x : Int32} : x_V 231 (d + 1) [.int x] h (.int (x_bo (x_wi x 1 999))) h := by
  refine x_Ct_w (by decide) (Nat.le_of_ble_eq_true rfl) ok231 [] 2 ?_
  refine Exists.intro _ (And.intro m_isFrom (And.intro (And.intro (Nat.zero_le _) (Nat.zero_le _)) (fun q h' hpo => ?_)))
  obtain ⟨rfl, rfl⟩ := hpo
  exact And.intro ⟨by rw [← x_wl_wi (lo := 1) (hi := 999) rfl rfl]; rfl, rfl⟩ ⟨x_bo_rk _, Nat.le_refl _, Nat.le_refl _⟩
theorem m_isSum {x : Int32} : x_V 277 (d + 1) [.int x] h (.int (x_bo (x_wi x 0 999))) h := by
  refine x_Ct_w (by decide) (Nat.le_of_ble_eq_true rfl) ok277 [] 2 ?_
  refine Exists.intro _ (And.intro m_isFrom (And.intro (And.intro (Nat.zero_le _) (Nat.zero_le _)) (fun q h' hpo => ?_)))
  obtain ⟨rfl, rfl⟩ := hpo
  exact And.intro ⟨by rw [← x_wl_wi (lo := 0) (hi := 999) rfl rfl]; rfl, rfl⟩ ⟨x_bo_rk _, Nat.le_refl _, Nat.le_refl _⟩
theorem m_isKind {x : Int32} {N : Nat} (hN : f 501 0 = nI N) (hN2 : N ≤ 5) : x_V 226 d [.ref 500, .int x] (f, g, x_HR r t, dm, n) (.int (x_bo (x_ixb x N))) (f, g, x_HR r t, dm, n) := by
  have hn : (nI N).toInt = N := nI_toInt (by omega)
  refine x_Ct_w (by decide) (Nat.le_of_ble_eq_true rfl) ok226 [] 5 ?_
  refine And.intro (fun c => ?_) (fun c => ?_)
  · have c : x < 0 := c
    rw [x_lt, x_i0] at c
    have hb : x_ixb x N = false := by simp only [x_ixb, Bool.and_eq_false_iff, decide_eq_false_iff_not]; omega
    exact And.intro ⟨(by rw [hb]; rfl), rfl⟩ ⟨Or.inl rfl, Nat.le_refl _, Nat.le_refl _⟩
  · have c : ¬ x < 0 := c
    rw [x_lt, x_i0] at c
    refine And.intro (x_ix_nI (j := 0) (by decide) (by decide)) ?_
    refine And.intro (fun c2 => ?_) (fun c2 => ?_)
    · have c2 : f 501 0 ≤ x := c2
      rw [hN, x_le, hn] at c2
      have hb : x_ixb x N = false := by simp only [x_ixb, Bool.and_eq_false_iff, decide_eq_false_iff_not]; omega
      exact And.intro ⟨(by rw [hb]; rfl), rfl⟩ ⟨Or.inl rfl, Nat.le_refl _, Nat.le_refl _⟩
    · have c2 : ¬ f 501 0 ≤ x := c2
      rw [hN, x_le, hn] at c2
      have hb : x_ixb x N = true := by simp only [x_ixb, Bool.and_eq_true, decide_eq_true_eq]; omega
      exact And.intro ⟨(by rw [hb]; rfl), rfl⟩ ⟨Or.inr rfl, Nat.le_refl _, Nat.le_refl _⟩
theorem m_isGood {x : Int32} {N : Nat} (hN : f 501 1 = nI N) (hN2 : N ≤ 5) : x_V 227 d [.ref 500, .int x] (f, g, x_HR r t, dm, n) (.int (x_bo (x_ixb x N))) (f, g, x_HR r t, dm, n) := by
  have hn : (nI N).toInt = N := nI_toInt (by omega)
  refine x_Ct_w (by decide) (Nat.le_of_ble_eq_true rfl) ok227 [] 5 ?_
  refine And.intro (fun c => ?_) (fun c => ?_)
  · have c : x < 0 := c
    rw [x_lt, x_i0] at c
    have hb : x_ixb x N = false := by simp only [x_ixb, Bool.and_eq_false_iff, decide_eq_false_iff_not]; omega
    exact And.intro ⟨(by rw [hb]; rfl), rfl⟩ ⟨Or.inl rfl, Nat.le_refl _, Nat.le_refl _⟩
  · have c : ¬ x < 0 := c
    rw [x_lt, x_i0] at c
    refine And.intro (x_ix_nI (j := 1) (by decide) (by decide)) ?_
    refine And.intro (fun c2 => ?_) (fun c2 => ?_)
    · have c2 : f 501 1 ≤ x := c2
      rw [hN, x_le, hn] at c2
      have hb : x_ixb x N = false := by simp only [x_ixb, Bool.and_eq_false_iff, decide_eq_false_iff_not]; omega
      exact And.intro ⟨(by rw [hb]; rfl), rfl⟩ ⟨Or.inl rfl, Nat.le_refl _, Nat.le_refl _⟩
    · have c2 : ¬ f 501 1 ≤ x := c2
      rw [hN, x_le, hn] at c2
      have hb : x_ixb x N = true := by simp only [x_ixb, Bool.and_eq_true, decide_eq_true_eq]; omega
      exact And.intro ⟨(by rw [hb]; rfl), rfl⟩ ⟨Or.inr rfl, Nat.le_refl _, Nat.le_refl _⟩
theorem m_isPerson {x : Int32} {N : Nat} (hN : f 501 2 = nI N) (hN2 : N ≤ 5) : x_V 228 d [.ref 500, .int x] (f, g, x_HR r t, dm, n) (.int (x_bo (x_ixb x N))) (f, g, x_HR r t, dm, n) := by
  have hn : (nI N).toInt = N := nI_toInt (by omega)
  refine x_Ct_w (by decide) (Nat.le_of_ble_eq_true rfl) ok228 [] 5 ?_
  refine And.intro (fun c => ?_) (fun c => ?_)
  · have c : x < 0 := c
    rw [x_lt, x_i0] at c
    have hb : x_ixb x N = false := by simp only [x_ixb, Bool.and_eq_false_iff, decide_eq_false_iff_not]; omega
    exact And.intro ⟨(by rw [hb]; rfl), rfl⟩ ⟨Or.inl rfl, Nat.le_refl _, Nat.le_refl _⟩
  · have c : ¬ x < 0 := c
    rw [x_lt, x_i0] at c
    refine And.intro (x_ix_nI (j := 2) (by decide) (by decide)) ?_
    refine And.intro (fun c2 => ?_) (fun c2 => ?_)
    · have c2 : f 501 2 ≤ x := c2
      rw [hN, x_le, hn] at c2
      have hb : x_ixb x N = false := by simp only [x_ixb, Bool.and_eq_false_iff, decide_eq_false_iff_not]; omega
      exact And.intro ⟨(by rw [hb]; rfl), rfl⟩ ⟨Or.inl rfl, Nat.le_refl _, Nat.le_refl _⟩
    · have c2 : ¬ f 501 2 ≤ x := c2
      rw [hN, x_le, hn] at c2
      have hb : x_ixb x N = true := by simp only [x_ixb, Bool.and_eq_true, decide_eq_true_eq]; omega
      exact And.intro ⟨(by rw [hb]; rfl), rfl⟩ ⟨Or.inr rfl, Nat.le_refl _, Nat.le_refl _⟩
theorem m_isSheet {x y : Int32} {K N : Nat} (hK : f 501 0 = nI K) (hK2 : K ≤ 5) (hN : f 501 2 = nI N) (hN2 : N ≤ 5) : x_V 229 (d + 1) [.ref 500, .int x, .int y] (f, g, x_HR r t, dm, n) (.int (x_bo (x_ixb x N && x_ixb y K))) (f, g, x_HR r t, dm, n) := by
  refine x_Ct_w (by decide) (Nat.le_of_ble_eq_true rfl) ok229 [] 5 ?_
  refine Exists.intro _ (And.intro (m_isPerson hN hN2) (And.intro (And.intro (Nat.zero_le _) (Nat.zero_le _)) (fun q h' hpo => ?_)))
  obtain ⟨rfl, rfl⟩ := hpo
  cases hb : x_ixb x N with
  | false => exact And.intro (fun _ => And.intro ⟨rfl, rfl⟩ ⟨Or.inl rfl, Nat.le_refl _, Nat.le_refl _⟩) (fun c => absurd rfl c)
  | true =>
    refine And.intro (fun c => absurd c (by decide)) (fun _ => ?_)
    refine Exists.intro _ (And.intro (m_isKind hK hK2) (And.intro (And.intro (Nat.zero_le _) (Nat.zero_le _)) (fun q h' hpo => ?_)))
    obtain ⟨rfl, rfl⟩ := hpo
    cases hb2 : x_ixb y K with
    | false => exact And.intro (fun _ => And.intro ⟨rfl, rfl⟩ ⟨Or.inl rfl, Nat.le_refl _, Nat.le_refl _⟩) (fun c => absurd rfl c)
    | true => exact And.intro (fun c => absurd c (by decide)) (fun _ => And.intro ⟨rfl, rfl⟩ ⟨Or.inr rfl, Nat.le_refl _, Nat.le_refl _⟩)
theorem m_isWare {x y : Int32} {K N : Nat} (hK : f 501 1 = nI K) (hK2 : K ≤ 5) (hN : f 501 2 = nI N) (hN2 : N ≤ 5) : x_V 230 (d + 1) [.ref 500, .int x, .int y] (f, g, x_HR r t, dm, n) (.int (x_bo (x_ixb x N && x_ixb y K))) (f, g, x_HR r t, dm, n) := by
  refine x_Ct_w (by decide) (Nat.le_of_ble_eq_true rfl) ok230 [] 5 ?_
  refine Exists.intro _ (And.intro (m_isPerson hN hN2) (And.intro (And.intro (Nat.zero_le _) (Nat.zero_le _)) (fun q h' hpo => ?_)))
  obtain ⟨rfl, rfl⟩ := hpo
  cases hb : x_ixb x N with
  | false => exact And.intro (fun _ => And.intro ⟨rfl, rfl⟩ ⟨Or.inl rfl, Nat.le_refl _, Nat.le_refl _⟩) (fun c => absurd rfl c)
  | true =>
    refine And.intro (fun c => absurd c (by decide)) (fun _ => ?_)
    refine Exists.intro _ (And.intro (m_isGood hK hK2) (And.intro (And.intro (Nat.zero_le _) (Nat.zero_le _)) (fun q h' hpo => ?_)))
    obtain ⟨rfl, rfl⟩ := hpo
    cases hb2 : x_ixb y K with
    | false => exact And.intro (fun _ => And.intro ⟨rfl, rfl⟩ ⟨Or.inl rfl, Nat.le_refl _, Nat.le_refl _⟩) (fun c => absurd rfl c)
    | true => exact And.intro (fun c => absurd c (by decide)) (fun _ => And.intro ⟨rfl, rfl⟩ ⟨Or.inr rfl, Nat.le_refl _, Nat.le_refl _⟩)
theorem m_personRow {p : Nat} : x_V 224 d [.int (nI p)] h (.int (nI (26 + 14 * p))) h := by
  refine x_Ct_w (by decide) (Nat.le_of_ble_eq_true rfl) ok224 [] 2 ?_
  exact And.intro ⟨(by show some (Value.int (nI 26 + nI 14 * nI p)) = _; rw [pk_mul, nI_add]), rfl⟩ ⟨trivial, Nat.le_refl _, Nat.le_refl _⟩
theorem m_goodRow {p : Nat} : x_V 225 d [.int (nI p)] h (.int (nI (16 + 2 * p))) h := by
  refine x_Ct_w (by decide) (Nat.le_of_ble_eq_true rfl) ok225 [] 2 ?_
  exact And.intro ⟨(by show some (Value.int (nI 16 + nI 2 * nI p)) = _; rw [pk_mul, nI_add]), rfl⟩ ⟨trivial, Nat.le_refl _, Nat.le_refl _⟩
theorem m_wholeAt {p k : Nat} : x_V 233 (d + 1) [.ref 500, .int (nI p), .int (nI k)] h (.int (nI (27 + 14 * p + k))) h := by
  refine x_Ct_w (by decide) (Nat.le_of_ble_eq_true rfl) ok233 [] 2 ?_
  refine Exists.intro _ (And.intro m_personRow (And.intro (And.intro (Nat.zero_le _) (Nat.zero_le _)) (fun q h' hpo => ?_)))
  obtain ⟨rfl, rfl⟩ := hpo
  exact And.intro ⟨(by show some (Value.int (nI (26 + 14 * p) + nI 1 + nI k)) = _; rw [nI_add, nI_add]; congr 3; omega), rfl⟩ ⟨trivial, Nat.le_refl _, Nat.le_refl _⟩
theorem m_tornAt {p k : Nat} : x_V 234 (d + 1) [.ref 500, .int (nI p), .int (nI k)] h (.int (nI (31 + 14 * p + k))) h := by
  refine x_Ct_w (by decide) (Nat.le_of_ble_eq_true rfl) ok234 [] 2 ?_
  refine Exists.intro _ (And.intro m_personRow (And.intro (And.intro (Nat.zero_le _) (Nat.zero_le _)) (fun q h' hpo => ?_)))
  obtain ⟨rfl, rfl⟩ := hpo
  exact And.intro ⟨(by show some (Value.int (nI (26 + 14 * p) + nI 5 + nI k)) = _; rw [nI_add, nI_add]; congr 3; omega), rfl⟩ ⟨trivial, Nat.le_refl _, Nat.le_refl _⟩
theorem m_worthOf {k : Nat} (hk : k < 100) : x_V 232 d [.ref 500, .int (nI k)] (f, g, x_HR r t, dm, n) (.int (f 501 (12 + k))) (f, g, x_HR r t, dm, n) := by
  refine x_Ct_w (by decide) (Nat.le_of_ble_eq_true rfl) ok232 [] 2 ?_
  refine And.intro (by show x_ix (nI 12 + nI k) 3168; rw [nI_add]; exact x_ix_nI (by omega) (by omega)) ?_
  exact And.intro ⟨(by show some (Value.int (f 501 (nI 12 + nI k).toNatClampNeg)) = _; rw [nI_add, nI_clamp (by omega)]), rfl⟩ ⟨trivial, Nat.le_refl _, Nat.le_refl _⟩
theorem m_worthAt {b K : Nat} (hb : b < 2000) (hK : f 501 0 = nI K) (hK4 : K ≤ 4) : x_V 235 (d + 1) [.ref 500, .int (nI b)] (f, g, x_HR r t, dm, n) (.int (x_wsum (f 501) (fun k => f 501 (12 + k)) b K)) (f, g, x_HR r t, dm, n) := by
  have loop : ∀ m k, k + m = K → x_J 235 (d + 1) (fun q h' => q = some (.int (x_wsum (f 501) (fun k => f 501 (12 + k)) b K)) ∧ h' = (f, g, x_HR r t, dm, n)) 4 [some (.ref 500), some (.int (nI b)), some (.int (x_wsum (f 501) (fun k => f 501 (12 + k)) b k)), some (.int (nI k))] [] (f, g, x_HR r t, dm, n) 0 0 := by
    intro m
    induction m with
    | zero =>
      intro k hk
      refine x_wp_ok ok235 [4] 3 ?_
      refine And.intro (x_ix_nI (j := 0) (by decide) (by decide)) ?_
      refine And.intro (fun c => ?_) (fun c => ?_)
      · rw [Nat.add_zero] at hk
        subst hk
        exact And.intro ⟨rfl, rfl⟩ ⟨trivial, Nat.le_refl _, Nat.le_refl _⟩
      · have c : ¬ f 501 0 ≤ nI k := c
        rw [hK] at c
        exact absurd (nI_le (by omega) (by omega)) c
    | succ m ih =>
      intro k hk
      refine x_wp_ok ok235 [4] 3 ?_
      refine And.intro (x_ix_nI (j := 0) (by decide) (by decide)) ?_
      refine And.intro (fun c => ?_) (fun c => ?_)
      · have c : f 501 0 ≤ nI k := c
        rw [hK] at c
        exact absurd c (nI_ge (by omega) (by omega))
      · refine And.intro (by show x_ix (nI b + nI k) 3168; rw [nI_add]; exact x_ix_nI (by omega) (by omega)) ?_
        rw [nI_add, nI_clamp (by omega)]
        refine Exists.intro _ (And.intro (m_worthOf (by omega)) (And.intro (And.intro (Nat.zero_le _) (Nat.zero_le _)) (fun q h' hpo => ?_)))
        obtain ⟨rfl, rfl⟩ := hpo
        have e := ih (k + 1) (by omega)
        rw [nI_succ k] at e
        exact e
  exact x_Ct_w (by decide) (Nat.le_of_ble_eq_true rfl) ok235 [4] 3 (loop K 0 (Nat.zero_add K))
theorem v_M_ws (hM : v_M (f 501) 0 v) {c p : Nat} (hc : c = 13 ∨ c = 14) (hp : p < v 2 0 0) : ∀ k, k ≤ v 0 0 0 → x_wsum (f 501) (fun k => f 501 (12 + k)) (v_pm c p 0) k = nI (v_ws v c p k)
  | 0, _ => rfl
  | k + 1, hk => by
    have h1 := v_M_ws hM hc hp k (by omega)
    have h3 : f 501 (12 + k) = nI (v 9 k 0) := v_M_at hM (c := 9) (i := k) (j := 0) (show k < v 0 0 0 ∧ 0 = 0 from ⟨by omega, rfl⟩)
    have h2 : f 501 (v_pm c p 0 + k) = nI (v c p k) := by
      rcases hc with rfl | rfl
      · exact v_M_at hM (c := 13) (i := p) (j := k) (show p < v 2 0 0 ∧ k < v 0 0 0 from ⟨hp, by omega⟩)
      · exact v_M_at hM (c := 14) (i := p) (j := k) (show p < v 2 0 0 ∧ k < v 0 0 0 from ⟨hp, by omega⟩)
    show x_wsum _ _ _ k + f 501 (v_pm c p 0 + k) * f 501 (12 + k) = nI (v_ws v c p k + v c p k * v 9 k 0)
    rw [h1, h2, h3, pk_mul, nI_add]
theorem m_wholeWorthK {p : Nat} (hM : v_M (f 501) 0 v) (bK : v 0 0 0 ≤ 4) (bP : v 2 0 0 ≤ 5) (hp : p < v 2 0 0) : x_V 235 (d + 1) [.ref 500, .int (nI (27 + 14 * p + 0))] (f, g, x_HR r t, dm, n) (.int (nI (v_ws v 13 p (v 0 0 0)))) (f, g, x_HR r t, dm, n) := by
  rw [← v_M_ws hM (Or.inl rfl) hp _ (Nat.le_refl _)]
  exact m_worthAt (by omega) (v_M_at hM (c := 0) (i := 0) (j := 0) ⟨rfl, rfl⟩) bK
theorem m_tornWorthK {p : Nat} (hM : v_M (f 501) 0 v) (bK : v 0 0 0 ≤ 4) (bP : v 2 0 0 ≤ 5) (hp : p < v 2 0 0) : x_V 235 (d + 1) [.ref 500, .int (nI (31 + 14 * p + 0))] (f, g, x_HR r t, dm, n) (.int (nI (v_ws v 14 p (v 0 0 0)))) (f, g, x_HR r t, dm, n) := by
  rw [← v_M_ws hM (Or.inr rfl) hp _ (Nat.le_refl _)]
  exact m_worthAt (by omega) (v_M_at hM (c := 0) (i := 0) (j := 0) ⟨rfl, rfl⟩) bK
theorem m_outK (hM : v_M (f 501) 0 v) (bK : v 0 0 0 ≤ 4) (bP : v 2 0 0 ≤ 5) : x_V 236 (d + 2) [.ref 500] (f, g, x_HR r t, dm, n) (.int (nI (v_out v))) (f, g, x_HR r t, dm, n) := by
  have hP : f 501 2 = nI (v 2 0 0) := v_M_at hM (c := 2) (i := 0) (j := 0) ⟨rfl, rfl⟩
  have h8 : f 501 8 = nI (v 8 0 0) := v_M_at hM (c := 8) (i := 0) (j := 0) ⟨rfl, rfl⟩
  have loop : ∀ m p, p + m = v 2 0 0 → x_J 236 (d + 2) (fun q h' => q = some (.int (nI (v_out v))) ∧ h' = (f, g, x_HR r t, dm, n)) 10 [some (.ref 500), some (.int (nI (v_os v p))), some (.int (nI p))] [] (f, g, x_HR r t, dm, n) 0 0 := by
    intro m
    induction m with
    | zero =>
      intro p hp
      refine x_wp_ok ok236 [10] 3 ?_
      refine And.intro (x_ix_nI (j := 2) (by decide) (by decide)) ?_
      refine And.intro (fun c => ?_) (fun c => ?_)
      · rw [Nat.add_zero] at hp
        subst hp
        exact And.intro ⟨rfl, rfl⟩ ⟨trivial, Nat.le_refl _, Nat.le_refl _⟩
      · have c : ¬ f 501 2 ≤ nI p := c
        rw [hP] at c
        exact absurd (nI_le (by omega) (by omega)) c
    | succ m ih =>
      intro p hp
      refine x_wp_ok ok236 [10] 3 ?_
      refine And.intro (x_ix_nI (j := 2) (by decide) (by decide)) ?_
      refine And.intro (fun c => ?_) (fun c => ?_)
      · have c : f 501 2 ≤ nI p := c
        rw [hP] at c
        exact absurd c (nI_ge (by omega) (by omega))
      · refine Exists.intro _ (And.intro (m_wholeAt (k := 0)) (And.intro (And.intro (Nat.zero_le _) (Nat.zero_le _)) (fun q h' hpo => ?_)))
        obtain ⟨rfl, rfl⟩ := hpo
        refine Exists.intro _ (And.intro (m_wholeWorthK hM bK bP (by omega)) (And.intro (And.intro (Nat.zero_le _) (Nat.zero_le _)) (fun q h' hpo => ?_)))
        obtain ⟨rfl, rfl⟩ := hpo
        refine Exists.intro _ (And.intro (m_tornAt (k := 0)) (And.intro (And.intro (Nat.zero_le _) (Nat.zero_le _)) (fun q h' hpo => ?_)))
        obtain ⟨rfl, rfl⟩ := hpo
        refine Exists.intro _ (And.intro (m_tornWorthK hM bK bP (by omega)) (And.intro (And.intro (Nat.zero_le _) (Nat.zero_le _)) (fun q h' hpo => ?_)))
        obtain ⟨rfl, rfl⟩ := hpo
        have e := ih (p + 1) (by omega)
        rw [nI_succ p, show v_os v (p + 1) = v_os v p + (v_ws v 13 p (v 0 0 0) + v_ws v 14 p (v 0 0 0)) from rfl, ← nI_add, ← nI_add] at e
        exact e
  have e := loop (v 2 0 0) 0 (Nat.zero_add _)
  rw [show v_os v 0 = v 8 0 0 from rfl, ← h8] at e
  exact x_Ct_w (by decide) (Nat.le_of_ble_eq_true rfl) ok236 [10] 3 (And.intro (x_ix_nI (j := 8) (by decide) (by decide)) e)
theorem m_wholeWorth {p : Nat} (hM : v_M (f 501) 0 v) (hB : v_B v) (hp : p < v 2 0 0) : x_V 235 (d + 1) [.ref 500, .int (nI (27 + 14 * p + 0))] (f, g, x_HR r t, dm, n) (.int (nI (v_ws v 13 p (v 0 0 0)))) (f, g, x_HR r t, dm, n) := m_wholeWorthK hM (v_B_K hB) (v_B_P hB) hp
theorem m_tornWorth {p : Nat} (hM : v_M (f 501) 0 v) (hB : v_B v) (hp : p < v 2 0 0) : x_V 235 (d + 1) [.ref 500, .int (nI (31 + 14 * p + 0))] (f, g, x_HR r t, dm, n) (.int (nI (v_ws v 14 p (v 0 0 0)))) (f, g, x_HR r t, dm, n) := m_tornWorthK hM (v_B_K hB) (v_B_P hB) hp
theorem m_out (hM : v_M (f 501) 0 v) (hB : v_B v) : x_V 236 (d + 2) [.ref 500] (f, g, x_HR r t, dm, n) (.int (nI (v_out v))) (f, g, x_HR r t, dm, n) := m_outK hM (v_B_K hB) (v_B_P hB)
end C21
