/-! the class's story at the cell t shows the lines s -/
def y_wd (o : Nat) : Nat := if 18 ≤ o ∧ o ≤ 20 then 18 else o
def x_SC (f : Nat → Nat → Int32) (t : Nat) (s : xR) (NL : Nat) : Prop := f t 2 = nI NL ∧ ∀ k, k < NL → f (t + 1) k = nI (y_wd (s 0 k)) ∧ (s 0 k ≤ 15 → f (t + 2) k = nI (s 1 k) ∧ f (t + 3) k = nI (s 2 k)) ∧ (18 ≤ s 0 k ∧ s 0 k ≤ 20 → f (t + 2) k = nI (s 0 k + 1) ∧ (s 0 k ≠ 18 → f (t + 3) k = nI (s 1 k)) ∧ f (t + 5) k = nI (s 5 k)) ∧ (s 0 k ≠ 17 → s 0 k ≠ 23 → s 0 k ≠ 24 → f (t + 4) k = nI (s 3 k)) ∧ (17 < s 0 k → s 0 k ≠ 24 → f (t + 6) k = nI (s 4 k))
theorem y_li_24 {s : xR} {P K G k : Nat} (h : y_li s P K G k) : 11 ≤ s 0 k ∧ s 0 k ≤ 24 := by
  unfold y_li at h
  omega
theorem y_wd_24 {o : Nat} (h : o ≤ 24) : y_wd o ≤ 24 := by
  unfold y_wd
  split <;> omega
theorem x_mx1 {m : Nat} (h : 0 < m) (h2 : m < 2 ^ 31) : (if (1 : Int32) < nI m then nI m else 1) = nI m := by
  by_cases c : m = 1
  · subst c
    rfl
  · exact if_pos (nI_lt (a := 1) (by omega) h2)
section C57
variable {f : Nat → Nat → Int32} {g : Nat → Nat → Int64} {r t : Nat} {dm : List Nat} {n d N : Nat} {v : xV} {s : xR} {NL : Nat}
theorem c_draw_102 {ch m : Nat} (hc : f 102 2 = nI ch) (hch : ch < 65536) (hm : 0 < m) (hm2 : m ≤ 5) : x_V 51 (d + 1) [.ref 102, .int (nI m)] (f, g, x_HR r t, dm, n) (.int (nI (y_dr ch / 8 % m))) (x_up f 102 2 (nI (y_dr ch)), g, x_HR r t, dm, n) := by
  have e1 : f 102 2 * 3079 + 11299 - (f 102 2 * 3079 + 11299) / 65536 * 65536 = nI (y_dr ch) := by
    rw [hc, show (3079 : Int32) = nI 3079 from rfl, show (11299 : Int32) = nI 11299 from rfl, show (65536 : Int32) = nI 65536 from rfl, pk_mul, nI_add, pk_rem (by omega) (by decide) (by decide)]
    rfl
  have hd : y_dr ch < 65536 := Nat.mod_lt _ (by decide)
  have e2 : nI (y_dr ch) / 8 - nI (y_dr ch) / 8 / (if (1 : Int32) < nI m then nI m else 1) * (if (1 : Int32) < nI m then nI m else 1) = nI (y_dr ch / 8 % m) := by
    rw [x_mx1 hm (by omega), show (8 : Int32) = nI 8 from rfl, pk_div (by omega) (by decide) (by decide), pk_rem (by omega) hm (by omega)]
  refine x_Ct_w (by decide) (Nat.le_of_ble_eq_true rfl) ok51 [] 6 ?_
  refine And.intro (by decide) ?_
  refine And.intro (by decide) ?_
  refine And.intro (fun q => nI_ne0 hm (by omega) ((x_mx1 hm (by omega)).symm.trans q)) ?_
  rw [← e2, ← e1]
  exact And.intro ⟨rfl, rfl⟩ ⟨trivial, Nat.le_refl _, Nat.le_refl _⟩
theorem c_isPassed_102 {mo m : Nat} {b : Bool} (hc : f 102 5 = nI mo) : x_V 50 d [.ref 102, .int (x_bo b), .int (nI m)] (f, g, x_HR r t, dm, n) (.int (x_bo b)) (x_up f 102 5 (nI (mo + match b with | true => m | false => 0)), g, x_HR r t, dm, n) := by
  refine x_Ct_w (by decide) (Nat.le_of_ble_eq_true rfl) ok50 [] 6 ?_
  cases b with
  | false =>
    refine And.intro (fun _ => ?_) (fun c => absurd rfl c)
    rw [← nI_add, ← hc]
    exact And.intro ⟨rfl, rfl⟩ ⟨Or.inl rfl, Nat.le_refl _, Nat.le_refl _⟩
  | true =>
    refine And.intro (fun c => absurd c (by decide)) (fun _ => ?_)
    rw [← nI_add, ← hc]
    exact And.intro ⟨rfl, rfl⟩ ⟨Or.inr rfl, Nat.le_refl _, Nat.le_refl _⟩
theorem c_draw_104 {ch m : Nat} (hc : f 104 2 = nI ch) (hch : ch < 65536) (hm : 0 < m) (hm2 : m ≤ 5) : x_V 51 (d + 1) [.ref 104, .int (nI m)] (f, g, x_HR r t, dm, n) (.int (nI (y_dr ch / 8 % m))) (x_up f 104 2 (nI (y_dr ch)), g, x_HR r t, dm, n) := by
  have e1 : f 104 2 * 3079 + 11299 - (f 104 2 * 3079 + 11299) / 65536 * 65536 = nI (y_dr ch) := by
    rw [hc, show (3079 : Int32) = nI 3079 from rfl, show (11299 : Int32) = nI 11299 from rfl, show (65536 : Int32) = nI 65536 from rfl, pk_mul, nI_add, pk_rem (by omega) (by decide) (by decide)]
    rfl
  have hd : y_dr ch < 65536 := Nat.mod_lt _ (by decide)
  have e2 : nI (y_dr ch) / 8 - nI (y_dr ch) / 8 / (if (1 : Int32) < nI m then nI m else 1) * (if (1 : Int32) < nI m then nI m else 1) = nI (y_dr ch / 8 % m) := by
    rw [x_mx1 hm (by omega), show (8 : Int32) = nI 8 from rfl, pk_div (by omega) (by decide) (by decide), pk_rem (by omega) hm (by omega)]
  refine x_Ct_w (by decide) (Nat.le_of_ble_eq_true rfl) ok51 [] 6 ?_
  refine And.intro (by decide) ?_
  refine And.intro (by decide) ?_
  refine And.intro (fun q => nI_ne0 hm (by omega) ((x_mx1 hm (by omega)).symm.trans q)) ?_
  rw [← e2, ← e1]
  exact And.intro ⟨rfl, rfl⟩ ⟨trivial, Nat.le_refl _, Nat.le_refl _⟩
theorem c_isPassed_104 {mo m : Nat} {b : Bool} (hc : f 104 5 = nI mo) : x_V 50 d [.ref 104, .int (x_bo b), .int (nI m)] (f, g, x_HR r t, dm, n) (.int (x_bo b)) (x_up f 104 5 (nI (mo + match b with | true => m | false => 0)), g, x_HR r t, dm, n) := by
  refine x_Ct_w (by decide) (Nat.le_of_ble_eq_true rfl) ok50 [] 6 ?_
  cases b with
  | false =>
    refine And.intro (fun _ => ?_) (fun c => absurd rfl c)
    rw [← nI_add, ← hc]
    exact And.intro ⟨rfl, rfl⟩ ⟨Or.inl rfl, Nat.le_refl _, Nat.le_refl _⟩
  | true =>
    refine And.intro (fun c => absurd c (by decide)) (fun _ => ?_)
    rw [← nI_add, ← hc]
    exact And.intro ⟨rfl, rfl⟩ ⟨Or.inr rfl, Nat.le_refl _, Nat.le_refl _⟩
theorem c_holdsTrue_12_32 {k : Nat} (hC : v_C f g 12 v) (hB : v_B v) (hSC : x_SC f 32 s NL) (hNL : NL ≤ 60) (hk : k < NL) (hli : y_li s (v 2 0 0) (v 0 0 0) (v 1 0 0) k) (hw : 18 ≤ s 0 k ∧ s 0 k ≤ 20) : x_V 48 (d + 3) [.ref 12, .ref 32, .int (nI k)] (f, g, x_HR r t, dm, n) (.int (x_bo (y_te s v k))) (f, g, x_HR r t, dm, n) := by
  obtain ⟨w1, w2, w3, w4, w5⟩ := hSC.2 k hk
  obtain ⟨w6, w7, w8⟩ := w3 hw
  have w6 : f 34 k = nI (s 0 k + 1) := w6
  have w8 : f 37 k = nI (s 5 k) := w8
  have w4 : f 36 k = nI (s 3 k) := w4 (by omega) (by omega) (by omega)
  have hq : (s 0 k = 19 → s 1 k < v 2 0 0) ∧ (s 0 k = 20 → s 1 k < v 1 0 0) ∧ s 3 k ≤ 9999 ∧ s 5 k ≤ 62 := by
    unfold y_li at hli
    omega
  obtain ⟨q1, q2, q3, q4⟩ := hq
  have bK := v_B_K hB
  have bG := v_B_G hB
  have bP := v_B_P hB
  have o7 : v_ok v 7 0 0 := ⟨rfl, rfl⟩
  have h7 : f 12 4 = nI (v 7 0 0) := hC.1 7 0 0 o7
  have b7 : v 7 0 0 ≤ 21000000 := (hB.1 7 0 0 o7).2
  have l7 : 1 ≤ v 7 0 0 := (hB.1 7 0 0 o7).1
  have hse : y_se s v k < 2 ^ 31 := by
    unfold y_se
    split
    · omega
    · split
      · rename_i h1
        have := v_ws_le4 hB (c := 13) (Or.inl rfl) (q1 h1)
        omega
      · have : v 11 (s 1 k) 0 ≤ 9999 := (hB.1 11 (s 1 k) 0 (show s 1 k < v 1 0 0 ∧ 0 = 0 from ⟨q2 (by omega), rfl⟩)).2
        omega
  have tail : ∀ l, x_J 48 (d + 3) (fun q h' => q = some (.int (x_bo (y_te s v k))) ∧ h' = (f, g, x_HR r t, dm, n)) 53 [some (.ref 12), some (.ref 32), some (.int (nI k)), some (.int (nI (y_se s v k))), l] [] (f, g, x_HR r t, dm, n) 0 0 := by
    intro l
    refine x_wp_ok ok48 [] 8 ?_
    unfold y_te
    refine And.intro (x_ix_nI (by omega) (by omega)) ?_
    rw [nI_clamp (by omega)]
    refine And.intro (x_ix_nI (by omega) (by omega)) ?_
    rw [nI_clamp (by omega)]
    refine And.intro (fun c => ?_) (fun c => ?_)
    · have c : ¬ f 37 k = nI 60 := c
      rw [w8, nI_eq (by omega) (by decide)] at c
      rw [if_neg c]
      refine And.intro (x_ix_nI (by omega) (by omega)) ?_
      rw [nI_clamp (by omega)]
      refine And.intro (fun c2 => ?_) (fun c2 => ?_)
      · have c2 : ¬ f 37 k = nI 62 := c2
        rw [w8, nI_eq (by omega) (by decide)] at c2
        rw [if_neg c2]
        refine And.intro (fun c3 => ?_) (fun c3 => ?_)
        · have c3 : ¬ nI (y_se s v k) = f 36 k := c3
          rw [w4, nI_eq hse (by omega)] at c3
          rw [decide_eq_false c3]
          exact And.intro ⟨rfl, rfl⟩ ⟨Or.inl rfl, Nat.le_refl _, Nat.le_refl _⟩
        · have c3 : nI (y_se s v k) = f 36 k := c3
          rw [w4, nI_eq hse (by omega)] at c3
          rw [decide_eq_true c3]
          exact And.intro ⟨rfl, rfl⟩ ⟨Or.inr rfl, Nat.le_refl _, Nat.le_refl _⟩
      · have c2 : f 37 k = nI 62 := c2
        rw [w8, nI_eq (by omega) (by decide)] at c2
        rw [if_pos c2]
        refine And.intro (fun c3 => ?_) (fun c3 => ?_)
        · have c3 : nI (y_se s v k) ≤ f 36 k := c3
          rw [w4, nI_leI hse (by omega)] at c3
          rw [decide_eq_false (by omega)]
          exact And.intro ⟨rfl, rfl⟩ ⟨Or.inl rfl, Nat.le_refl _, Nat.le_refl _⟩
        · have c3 : ¬ nI (y_se s v k) ≤ f 36 k := c3
          rw [w4, nI_leI hse (by omega)] at c3
          rw [decide_eq_true (by omega)]
          exact And.intro ⟨rfl, rfl⟩ ⟨Or.inr rfl, Nat.le_refl _, Nat.le_refl _⟩
    · have c : f 37 k = nI 60 := c
      rw [w8, nI_eq (by omega) (by decide)] at c
      rw [if_pos c]
      refine And.intro (fun c3 => ?_) (fun c3 => ?_)
      · have c3 : f 36 k ≤ nI (y_se s v k) := c3
        rw [w4, nI_leI (by omega) hse] at c3
        rw [decide_eq_false (by omega)]
        exact And.intro ⟨rfl, rfl⟩ ⟨Or.inl rfl, Nat.le_refl _, Nat.le_refl _⟩
      · have c3 : ¬ f 36 k ≤ nI (y_se s v k) := c3
        rw [w4, nI_leI (by omega) hse] at c3
        rw [decide_eq_true (by omega)]
        exact And.intro ⟨rfl, rfl⟩ ⟨Or.inr rfl, Nat.le_refl _, Nat.le_refl _⟩
  refine x_Ct_w (by decide) (Nat.le_of_ble_eq_true rfl) ok48 [53] 6 ?_
  refine And.intro (x_ix_nI (by omega) (by omega)) ?_
  rw [nI_clamp (by omega)]
  refine And.intro (fun c => ?_) (fun c => ?_)
  · have c : ¬ f 34 k = nI 20 := c
    rw [w6, nI_eq (by omega) (by decide)] at c
    refine And.intro (x_ix_nI (by omega) (by omega)) ?_
    rw [nI_clamp (by omega)]
    refine And.intro (fun c2 => ?_) (fun c2 => ?_)
    · have c2 : ¬ f 34 k = nI 21 := c2
      rw [w6, nI_eq (by omega) (by decide)] at c2
      have e := tail none
      rw [show y_se s v k = v 7 0 0 from if_pos (by omega), ← h7] at e
      exact e
    · have c2 : f 34 k = nI 21 := c2
      rw [w6, nI_eq (by omega) (by decide)] at c2
      have w7 : f 35 k = nI (s 1 k) := w7 (by omega)
      have q2 := q2 (by omega)
      have h11 : f 17 (f 35 k).toNatClampNeg = nI (v 11 (s 1 k) 0) := by
        rw [w7, nI_clamp (by omega)]
        exact hC.1 11 (s 1 k) 0 (show s 1 k < v 1 0 0 ∧ 0 = 0 from ⟨q2, rfl⟩)
      refine And.intro (x_ix_nI (by omega) (by omega)) ?_
      rw [nI_clamp (by omega)]
      refine And.intro (show x_ix (f 35 k) 5 by rw [w7]; exact x_ix_nI (by omega) (by decide)) ?_
      have e := tail none
      rw [show y_se s v k = v 11 (s 1 k) 0 from (if_neg (by omega)).trans (if_neg (by omega)), ← h11] at e
      exact e
  · have c : f 34 k = nI 20 := c
    rw [w6, nI_eq (by omega) (by decide)] at c
    have w7 : f 35 k = nI (s 1 k) := w7 (by omega)
    refine And.intro (x_ix_nI (by omega) (by omega)) ?_
    rw [nI_clamp (by omega)]
    have cl := c_wealthOf_12 (d := d) (r := r) (t := t) (dm := dm) (n := n) hC hB (q1 (by omega))
    rw [← w7] at cl
    refine Exists.intro _ (And.intro cl (And.intro (And.intro (Nat.zero_le _) (Nat.zero_le _)) (fun q h' hpo => ?_)))
    obtain ⟨rfl, rfl⟩ := hpo
    have e := tail none
    rw [show y_se s v k = v_ws v 13 (s 1 k) (v 0 0 0) from (if_neg (by omega)).trans (if_pos (by omega))] at e
    exact e
theorem c_holdsTrue_22_32 {k : Nat} (hC : v_C f g 22 v) (hB : v_B v) (hSC : x_SC f 32 s NL) (hNL : NL ≤ 60) (hk : k < NL) (hli : y_li s (v 2 0 0) (v 0 0 0) (v 1 0 0) k) (hw : 18 ≤ s 0 k ∧ s 0 k ≤ 20) : x_V 48 (d + 3) [.ref 22, .ref 32, .int (nI k)] (f, g, x_HR r t, dm, n) (.int (x_bo (y_te s v k))) (f, g, x_HR r t, dm, n) := by
  obtain ⟨w1, w2, w3, w4, w5⟩ := hSC.2 k hk
  obtain ⟨w6, w7, w8⟩ := w3 hw
  have w6 : f 34 k = nI (s 0 k + 1) := w6
  have w8 : f 37 k = nI (s 5 k) := w8
  have w4 : f 36 k = nI (s 3 k) := w4 (by omega) (by omega) (by omega)
  have hq : (s 0 k = 19 → s 1 k < v 2 0 0) ∧ (s 0 k = 20 → s 1 k < v 1 0 0) ∧ s 3 k ≤ 9999 ∧ s 5 k ≤ 62 := by
    unfold y_li at hli
    omega
  obtain ⟨q1, q2, q3, q4⟩ := hq
  have bK := v_B_K hB
  have bG := v_B_G hB
  have bP := v_B_P hB
  have o7 : v_ok v 7 0 0 := ⟨rfl, rfl⟩
  have h7 : f 22 4 = nI (v 7 0 0) := hC.1 7 0 0 o7
  have b7 : v 7 0 0 ≤ 21000000 := (hB.1 7 0 0 o7).2
  have l7 : 1 ≤ v 7 0 0 := (hB.1 7 0 0 o7).1
  have hse : y_se s v k < 2 ^ 31 := by
    unfold y_se
    split
    · omega
    · split
      · rename_i h1
        have := v_ws_le4 hB (c := 13) (Or.inl rfl) (q1 h1)
        omega
      · have : v 11 (s 1 k) 0 ≤ 9999 := (hB.1 11 (s 1 k) 0 (show s 1 k < v 1 0 0 ∧ 0 = 0 from ⟨q2 (by omega), rfl⟩)).2
        omega
  have tail : ∀ l, x_J 48 (d + 3) (fun q h' => q = some (.int (x_bo (y_te s v k))) ∧ h' = (f, g, x_HR r t, dm, n)) 53 [some (.ref 22), some (.ref 32), some (.int (nI k)), some (.int (nI (y_se s v k))), l] [] (f, g, x_HR r t, dm, n) 0 0 := by
    intro l
    refine x_wp_ok ok48 [] 8 ?_
    unfold y_te
    refine And.intro (x_ix_nI (by omega) (by omega)) ?_
    rw [nI_clamp (by omega)]
    refine And.intro (x_ix_nI (by omega) (by omega)) ?_
    rw [nI_clamp (by omega)]
    refine And.intro (fun c => ?_) (fun c => ?_)
    · have c : ¬ f 37 k = nI 60 := c
      rw [w8, nI_eq (by omega) (by decide)] at c
      rw [if_neg c]
      refine And.intro (x_ix_nI (by omega) (by omega)) ?_
      rw [nI_clamp (by omega)]
      refine And.intro (fun c2 => ?_) (fun c2 => ?_)
      · have c2 : ¬ f 37 k = nI 62 := c2
        rw [w8, nI_eq (by omega) (by decide)] at c2
        rw [if_neg c2]
        refine And.intro (fun c3 => ?_) (fun c3 => ?_)
        · have c3 : ¬ nI (y_se s v k) = f 36 k := c3
          rw [w4, nI_eq hse (by omega)] at c3
          rw [decide_eq_false c3]
          exact And.intro ⟨rfl, rfl⟩ ⟨Or.inl rfl, Nat.le_refl _, Nat.le_refl _⟩
        · have c3 : nI (y_se s v k) = f 36 k := c3
          rw [w4, nI_eq hse (by omega)] at c3
          rw [decide_eq_true c3]
          exact And.intro ⟨rfl, rfl⟩ ⟨Or.inr rfl, Nat.le_refl _, Nat.le_refl _⟩
      · have c2 : f 37 k = nI 62 := c2
        rw [w8, nI_eq (by omega) (by decide)] at c2
        rw [if_pos c2]
        refine And.intro (fun c3 => ?_) (fun c3 => ?_)
        · have c3 : nI (y_se s v k) ≤ f 36 k := c3
          rw [w4, nI_leI hse (by omega)] at c3
          rw [decide_eq_false (by omega)]
          exact And.intro ⟨rfl, rfl⟩ ⟨Or.inl rfl, Nat.le_refl _, Nat.le_refl _⟩
        · have c3 : ¬ nI (y_se s v k) ≤ f 36 k := c3
          rw [w4, nI_leI hse (by omega)] at c3
          rw [decide_eq_true (by omega)]
          exact And.intro ⟨rfl, rfl⟩ ⟨Or.inr rfl, Nat.le_refl _, Nat.le_refl _⟩
    · have c : f 37 k = nI 60 := c
      rw [w8, nI_eq (by omega) (by decide)] at c
      rw [if_pos c]
      refine And.intro (fun c3 => ?_) (fun c3 => ?_)
      · have c3 : f 36 k ≤ nI (y_se s v k) := c3
        rw [w4, nI_leI (by omega) hse] at c3
        rw [decide_eq_false (by omega)]
        exact And.intro ⟨rfl, rfl⟩ ⟨Or.inl rfl, Nat.le_refl _, Nat.le_refl _⟩
      · have c3 : ¬ f 36 k ≤ nI (y_se s v k) := c3
        rw [w4, nI_leI (by omega) hse] at c3
        rw [decide_eq_true (by omega)]
        exact And.intro ⟨rfl, rfl⟩ ⟨Or.inr rfl, Nat.le_refl _, Nat.le_refl _⟩
  refine x_Ct_w (by decide) (Nat.le_of_ble_eq_true rfl) ok48 [53] 6 ?_
  refine And.intro (x_ix_nI (by omega) (by omega)) ?_
  rw [nI_clamp (by omega)]
  refine And.intro (fun c => ?_) (fun c => ?_)
  · have c : ¬ f 34 k = nI 20 := c
    rw [w6, nI_eq (by omega) (by decide)] at c
    refine And.intro (x_ix_nI (by omega) (by omega)) ?_
    rw [nI_clamp (by omega)]
    refine And.intro (fun c2 => ?_) (fun c2 => ?_)
    · have c2 : ¬ f 34 k = nI 21 := c2
      rw [w6, nI_eq (by omega) (by decide)] at c2
      have e := tail none
      rw [show y_se s v k = v 7 0 0 from if_pos (by omega), ← h7] at e
      exact e
    · have c2 : f 34 k = nI 21 := c2
      rw [w6, nI_eq (by omega) (by decide)] at c2
      have w7 : f 35 k = nI (s 1 k) := w7 (by omega)
      have q2 := q2 (by omega)
      have h11 : f 27 (f 35 k).toNatClampNeg = nI (v 11 (s 1 k) 0) := by
        rw [w7, nI_clamp (by omega)]
        exact hC.1 11 (s 1 k) 0 (show s 1 k < v 1 0 0 ∧ 0 = 0 from ⟨q2, rfl⟩)
      refine And.intro (x_ix_nI (by omega) (by omega)) ?_
      rw [nI_clamp (by omega)]
      refine And.intro (show x_ix (f 35 k) 5 by rw [w7]; exact x_ix_nI (by omega) (by decide)) ?_
      have e := tail none
      rw [show y_se s v k = v 11 (s 1 k) 0 from (if_neg (by omega)).trans (if_neg (by omega)), ← h11] at e
      exact e
  · have c : f 34 k = nI 20 := c
    rw [w6, nI_eq (by omega) (by decide)] at c
    have w7 : f 35 k = nI (s 1 k) := w7 (by omega)
    refine And.intro (x_ix_nI (by omega) (by omega)) ?_
    rw [nI_clamp (by omega)]
    have cl := c_wealthOf_22 (d := d) (r := r) (t := t) (dm := dm) (n := n) hC hB (q1 (by omega))
    rw [← w7] at cl
    refine Exists.intro _ (And.intro cl (And.intro (And.intro (Nat.zero_le _) (Nat.zero_le _)) (fun q h' hpo => ?_)))
    obtain ⟨rfl, rfl⟩ := hpo
    have e := tail none
    rw [show y_se s v k = v_ws v 13 (s 1 k) (v 0 0 0) from (if_neg (by omega)).trans (if_pos (by omega))] at e
    exact e
theorem c_holdsTrue_12_39 {k : Nat} (hC : v_C f g 12 v) (hB : v_B v) (hSC : x_SC f 39 s NL) (hNL : NL ≤ 60) (hk : k < NL) (hli : y_li s (v 2 0 0) (v 0 0 0) (v 1 0 0) k) (hw : 18 ≤ s 0 k ∧ s 0 k ≤ 20) : x_V 48 (d + 3) [.ref 12, .ref 39, .int (nI k)] (f, g, x_HR r t, dm, n) (.int (x_bo (y_te s v k))) (f, g, x_HR r t, dm, n) := by
  obtain ⟨w1, w2, w3, w4, w5⟩ := hSC.2 k hk
  obtain ⟨w6, w7, w8⟩ := w3 hw
  have w6 : f 41 k = nI (s 0 k + 1) := w6
  have w8 : f 44 k = nI (s 5 k) := w8
  have w4 : f 43 k = nI (s 3 k) := w4 (by omega) (by omega) (by omega)
  have hq : (s 0 k = 19 → s 1 k < v 2 0 0) ∧ (s 0 k = 20 → s 1 k < v 1 0 0) ∧ s 3 k ≤ 9999 ∧ s 5 k ≤ 62 := by
    unfold y_li at hli
    omega
  obtain ⟨q1, q2, q3, q4⟩ := hq
  have bK := v_B_K hB
  have bG := v_B_G hB
  have bP := v_B_P hB
  have o7 : v_ok v 7 0 0 := ⟨rfl, rfl⟩
  have h7 : f 12 4 = nI (v 7 0 0) := hC.1 7 0 0 o7
  have b7 : v 7 0 0 ≤ 21000000 := (hB.1 7 0 0 o7).2
  have l7 : 1 ≤ v 7 0 0 := (hB.1 7 0 0 o7).1
  have hse : y_se s v k < 2 ^ 31 := by
    unfold y_se
    split
    · omega
    · split
      · rename_i h1
        have := v_ws_le4 hB (c := 13) (Or.inl rfl) (q1 h1)
        omega
      · have : v 11 (s 1 k) 0 ≤ 9999 := (hB.1 11 (s 1 k) 0 (show s 1 k < v 1 0 0 ∧ 0 = 0 from ⟨q2 (by omega), rfl⟩)).2
        omega
  have tail : ∀ l, x_J 48 (d + 3) (fun q h' => q = some (.int (x_bo (y_te s v k))) ∧ h' = (f, g, x_HR r t, dm, n)) 53 [some (.ref 12), some (.ref 39), some (.int (nI k)), some (.int (nI (y_se s v k))), l] [] (f, g, x_HR r t, dm, n) 0 0 := by
    intro l
    refine x_wp_ok ok48 [] 8 ?_
    unfold y_te
    refine And.intro (x_ix_nI (by omega) (by omega)) ?_
    rw [nI_clamp (by omega)]
    refine And.intro (x_ix_nI (by omega) (by omega)) ?_
    rw [nI_clamp (by omega)]
    refine And.intro (fun c => ?_) (fun c => ?_)
    · have c : ¬ f 44 k = nI 60 := c
      rw [w8, nI_eq (by omega) (by decide)] at c
      rw [if_neg c]
      refine And.intro (x_ix_nI (by omega) (by omega)) ?_
      rw [nI_clamp (by omega)]
      refine And.intro (fun c2 => ?_) (fun c2 => ?_)
      · have c2 : ¬ f 44 k = nI 62 := c2
        rw [w8, nI_eq (by omega) (by decide)] at c2
        rw [if_neg c2]
        refine And.intro (fun c3 => ?_) (fun c3 => ?_)
        · have c3 : ¬ nI (y_se s v k) = f 43 k := c3
          rw [w4, nI_eq hse (by omega)] at c3
          rw [decide_eq_false c3]
          exact And.intro ⟨rfl, rfl⟩ ⟨Or.inl rfl, Nat.le_refl _, Nat.le_refl _⟩
        · have c3 : nI (y_se s v k) = f 43 k := c3
          rw [w4, nI_eq hse (by omega)] at c3
          rw [decide_eq_true c3]
          exact And.intro ⟨rfl, rfl⟩ ⟨Or.inr rfl, Nat.le_refl _, Nat.le_refl _⟩
      · have c2 : f 44 k = nI 62 := c2
        rw [w8, nI_eq (by omega) (by decide)] at c2
        rw [if_pos c2]
        refine And.intro (fun c3 => ?_) (fun c3 => ?_)
        · have c3 : nI (y_se s v k) ≤ f 43 k := c3
          rw [w4, nI_leI hse (by omega)] at c3
          rw [decide_eq_false (by omega)]
          exact And.intro ⟨rfl, rfl⟩ ⟨Or.inl rfl, Nat.le_refl _, Nat.le_refl _⟩
        · have c3 : ¬ nI (y_se s v k) ≤ f 43 k := c3
          rw [w4, nI_leI hse (by omega)] at c3
          rw [decide_eq_true (by omega)]
          exact And.intro ⟨rfl, rfl⟩ ⟨Or.inr rfl, Nat.le_refl _, Nat.le_refl _⟩
    · have c : f 44 k = nI 60 := c
      rw [w8, nI_eq (by omega) (by decide)] at c
      rw [if_pos c]
      refine And.intro (fun c3 => ?_) (fun c3 => ?_)
      · have c3 : f 43 k ≤ nI (y_se s v k) := c3
        rw [w4, nI_leI (by omega) hse] at c3
        rw [decide_eq_false (by omega)]
        exact And.intro ⟨rfl, rfl⟩ ⟨Or.inl rfl, Nat.le_refl _, Nat.le_refl _⟩
      · have c3 : ¬ f 43 k ≤ nI (y_se s v k) := c3
        rw [w4, nI_leI (by omega) hse] at c3
        rw [decide_eq_true (by omega)]
        exact And.intro ⟨rfl, rfl⟩ ⟨Or.inr rfl, Nat.le_refl _, Nat.le_refl _⟩
  refine x_Ct_w (by decide) (Nat.le_of_ble_eq_true rfl) ok48 [53] 6 ?_
  refine And.intro (x_ix_nI (by omega) (by omega)) ?_
  rw [nI_clamp (by omega)]
  refine And.intro (fun c => ?_) (fun c => ?_)
  · have c : ¬ f 41 k = nI 20 := c
    rw [w6, nI_eq (by omega) (by decide)] at c
    refine And.intro (x_ix_nI (by omega) (by omega)) ?_
    rw [nI_clamp (by omega)]
    refine And.intro (fun c2 => ?_) (fun c2 => ?_)
    · have c2 : ¬ f 41 k = nI 21 := c2
      rw [w6, nI_eq (by omega) (by decide)] at c2
      have e := tail none
      rw [show y_se s v k = v 7 0 0 from if_pos (by omega), ← h7] at e
      exact e
    · have c2 : f 41 k = nI 21 := c2
      rw [w6, nI_eq (by omega) (by decide)] at c2
      have w7 : f 42 k = nI (s 1 k) := w7 (by omega)
      have q2 := q2 (by omega)
      have h11 : f 17 (f 42 k).toNatClampNeg = nI (v 11 (s 1 k) 0) := by
        rw [w7, nI_clamp (by omega)]
        exact hC.1 11 (s 1 k) 0 (show s 1 k < v 1 0 0 ∧ 0 = 0 from ⟨q2, rfl⟩)
      refine And.intro (x_ix_nI (by omega) (by omega)) ?_
      rw [nI_clamp (by omega)]
      refine And.intro (show x_ix (f 42 k) 5 by rw [w7]; exact x_ix_nI (by omega) (by decide)) ?_
      have e := tail none
      rw [show y_se s v k = v 11 (s 1 k) 0 from (if_neg (by omega)).trans (if_neg (by omega)), ← h11] at e
      exact e
  · have c : f 41 k = nI 20 := c
    rw [w6, nI_eq (by omega) (by decide)] at c
    have w7 : f 42 k = nI (s 1 k) := w7 (by omega)
    refine And.intro (x_ix_nI (by omega) (by omega)) ?_
    rw [nI_clamp (by omega)]
    have cl := c_wealthOf_12 (d := d) (r := r) (t := t) (dm := dm) (n := n) hC hB (q1 (by omega))
    rw [← w7] at cl
    refine Exists.intro _ (And.intro cl (And.intro (And.intro (Nat.zero_le _) (Nat.zero_le _)) (fun q h' hpo => ?_)))
    obtain ⟨rfl, rfl⟩ := hpo
    have e := tail none
    rw [show y_se s v k = v_ws v 13 (s 1 k) (v 0 0 0) from (if_neg (by omega)).trans (if_pos (by omega))] at e
    exact e
theorem c_holdsTrue_22_39 {k : Nat} (hC : v_C f g 22 v) (hB : v_B v) (hSC : x_SC f 39 s NL) (hNL : NL ≤ 60) (hk : k < NL) (hli : y_li s (v 2 0 0) (v 0 0 0) (v 1 0 0) k) (hw : 18 ≤ s 0 k ∧ s 0 k ≤ 20) : x_V 48 (d + 3) [.ref 22, .ref 39, .int (nI k)] (f, g, x_HR r t, dm, n) (.int (x_bo (y_te s v k))) (f, g, x_HR r t, dm, n) := by
  obtain ⟨w1, w2, w3, w4, w5⟩ := hSC.2 k hk
  obtain ⟨w6, w7, w8⟩ := w3 hw
  have w6 : f 41 k = nI (s 0 k + 1) := w6
  have w8 : f 44 k = nI (s 5 k) := w8
  have w4 : f 43 k = nI (s 3 k) := w4 (by omega) (by omega) (by omega)
  have hq : (s 0 k = 19 → s 1 k < v 2 0 0) ∧ (s 0 k = 20 → s 1 k < v 1 0 0) ∧ s 3 k ≤ 9999 ∧ s 5 k ≤ 62 := by
    unfold y_li at hli
    omega
  obtain ⟨q1, q2, q3, q4⟩ := hq
  have bK := v_B_K hB
  have bG := v_B_G hB
  have bP := v_B_P hB
  have o7 : v_ok v 7 0 0 := ⟨rfl, rfl⟩
  have h7 : f 22 4 = nI (v 7 0 0) := hC.1 7 0 0 o7
  have b7 : v 7 0 0 ≤ 21000000 := (hB.1 7 0 0 o7).2
  have l7 : 1 ≤ v 7 0 0 := (hB.1 7 0 0 o7).1
  have hse : y_se s v k < 2 ^ 31 := by
    unfold y_se
    split
    · omega
    · split
      · rename_i h1
        have := v_ws_le4 hB (c := 13) (Or.inl rfl) (q1 h1)
        omega
      · have : v 11 (s 1 k) 0 ≤ 9999 := (hB.1 11 (s 1 k) 0 (show s 1 k < v 1 0 0 ∧ 0 = 0 from ⟨q2 (by omega), rfl⟩)).2
        omega
  have tail : ∀ l, x_J 48 (d + 3) (fun q h' => q = some (.int (x_bo (y_te s v k))) ∧ h' = (f, g, x_HR r t, dm, n)) 53 [some (.ref 22), some (.ref 39), some (.int (nI k)), some (.int (nI (y_se s v k))), l] [] (f, g, x_HR r t, dm, n) 0 0 := by
    intro l
    refine x_wp_ok ok48 [] 8 ?_
    unfold y_te
    refine And.intro (x_ix_nI (by omega) (by omega)) ?_
    rw [nI_clamp (by omega)]
    refine And.intro (x_ix_nI (by omega) (by omega)) ?_
    rw [nI_clamp (by omega)]
    refine And.intro (fun c => ?_) (fun c => ?_)
    · have c : ¬ f 44 k = nI 60 := c
      rw [w8, nI_eq (by omega) (by decide)] at c
      rw [if_neg c]
      refine And.intro (x_ix_nI (by omega) (by omega)) ?_
      rw [nI_clamp (by omega)]
      refine And.intro (fun c2 => ?_) (fun c2 => ?_)
      · have c2 : ¬ f 44 k = nI 62 := c2
        rw [w8, nI_eq (by omega) (by decide)] at c2
        rw [if_neg c2]
        refine And.intro (fun c3 => ?_) (fun c3 => ?_)
        · have c3 : ¬ nI (y_se s v k) = f 43 k := c3
          rw [w4, nI_eq hse (by omega)] at c3
          rw [decide_eq_false c3]
          exact And.intro ⟨rfl, rfl⟩ ⟨Or.inl rfl, Nat.le_refl _, Nat.le_refl _⟩
        · have c3 : nI (y_se s v k) = f 43 k := c3
          rw [w4, nI_eq hse (by omega)] at c3
          rw [decide_eq_true c3]
          exact And.intro ⟨rfl, rfl⟩ ⟨Or.inr rfl, Nat.le_refl _, Nat.le_refl _⟩
      · have c2 : f 44 k = nI 62 := c2
        rw [w8, nI_eq (by omega) (by decide)] at c2
        rw [if_pos c2]
        refine And.intro (fun c3 => ?_) (fun c3 => ?_)
        · have c3 : nI (y_se s v k) ≤ f 43 k := c3
          rw [w4, nI_leI hse (by omega)] at c3
          rw [decide_eq_false (by omega)]
          exact And.intro ⟨rfl, rfl⟩ ⟨Or.inl rfl, Nat.le_refl _, Nat.le_refl _⟩
        · have c3 : ¬ nI (y_se s v k) ≤ f 43 k := c3
          rw [w4, nI_leI hse (by omega)] at c3
          rw [decide_eq_true (by omega)]
          exact And.intro ⟨rfl, rfl⟩ ⟨Or.inr rfl, Nat.le_refl _, Nat.le_refl _⟩
    · have c : f 44 k = nI 60 := c
      rw [w8, nI_eq (by omega) (by decide)] at c
      rw [if_pos c]
      refine And.intro (fun c3 => ?_) (fun c3 => ?_)
      · have c3 : f 43 k ≤ nI (y_se s v k) := c3
        rw [w4, nI_leI (by omega) hse] at c3
        rw [decide_eq_false (by omega)]
        exact And.intro ⟨rfl, rfl⟩ ⟨Or.inl rfl, Nat.le_refl _, Nat.le_refl _⟩
      · have c3 : ¬ f 43 k ≤ nI (y_se s v k) := c3
        rw [w4, nI_leI (by omega) hse] at c3
        rw [decide_eq_true (by omega)]
        exact And.intro ⟨rfl, rfl⟩ ⟨Or.inr rfl, Nat.le_refl _, Nat.le_refl _⟩
  refine x_Ct_w (by decide) (Nat.le_of_ble_eq_true rfl) ok48 [53] 6 ?_
  refine And.intro (x_ix_nI (by omega) (by omega)) ?_
  rw [nI_clamp (by omega)]
  refine And.intro (fun c => ?_) (fun c => ?_)
  · have c : ¬ f 41 k = nI 20 := c
    rw [w6, nI_eq (by omega) (by decide)] at c
    refine And.intro (x_ix_nI (by omega) (by omega)) ?_
    rw [nI_clamp (by omega)]
    refine And.intro (fun c2 => ?_) (fun c2 => ?_)
    · have c2 : ¬ f 41 k = nI 21 := c2
      rw [w6, nI_eq (by omega) (by decide)] at c2
      have e := tail none
      rw [show y_se s v k = v 7 0 0 from if_pos (by omega), ← h7] at e
      exact e
    · have c2 : f 41 k = nI 21 := c2
      rw [w6, nI_eq (by omega) (by decide)] at c2
      have w7 : f 42 k = nI (s 1 k) := w7 (by omega)
      have q2 := q2 (by omega)
      have h11 : f 27 (f 42 k).toNatClampNeg = nI (v 11 (s 1 k) 0) := by
        rw [w7, nI_clamp (by omega)]
        exact hC.1 11 (s 1 k) 0 (show s 1 k < v 1 0 0 ∧ 0 = 0 from ⟨q2, rfl⟩)
      refine And.intro (x_ix_nI (by omega) (by omega)) ?_
      rw [nI_clamp (by omega)]
      refine And.intro (show x_ix (f 42 k) 5 by rw [w7]; exact x_ix_nI (by omega) (by decide)) ?_
      have e := tail none
      rw [show y_se s v k = v 11 (s 1 k) 0 from (if_neg (by omega)).trans (if_neg (by omega)), ← h11] at e
      exact e
  · have c : f 41 k = nI 20 := c
    rw [w6, nI_eq (by omega) (by decide)] at c
    have w7 : f 42 k = nI (s 1 k) := w7 (by omega)
    refine And.intro (x_ix_nI (by omega) (by omega)) ?_
    rw [nI_clamp (by omega)]
    have cl := c_wealthOf_22 (d := d) (r := r) (t := t) (dm := dm) (n := n) hC hB (q1 (by omega))
    rw [← w7] at cl
    refine Exists.intro _ (And.intro cl (And.intro (And.intro (Nat.zero_le _) (Nat.zero_le _)) (fun q h' hpo => ?_)))
    obtain ⟨rfl, rfl⟩ := hpo
    have e := tail none
    rw [show y_se s v k = v_ws v 13 (s 1 k) (v 0 0 0) from (if_neg (by omega)).trans (if_pos (by omega))] at e
    exact e
end C57
