theorem nI_1o (a : Nat) : nI a + Int32.ofInt 1 = nI (a + 1) := nI_1 a
section C27
variable {f : Nat → Nat → Int32} {g : Nat → Nat → Int64} {r t : Nat} {ρ : Nat → Nat → Option Nat} {dm : List Nat} {n d N : Nat} {v : xV} {h : xH}
theorem c_wrongRenewal_12 {x : Int32} (hC : v_C f g 12 v) (hB : v_B v) : x_V 168 (d + 1) [.ref 0, .int x] (f, g, x_HR 12 t, dm, n) (.int (if x_ixb x (v 0 0 0) then (if x_c x + 1 < v 0 0 0 then 0 else 7) else 1)) (f, g, x_HR 12 t, dm, n) := by
  have bK := v_B_K hB
  have bG := v_B_G hB
  have bP := v_B_P hB
  have o0 : v_ok v 0 0 0 := ⟨rfl, rfl⟩
  have h0 : f 12 0 = nI (v 0 0 0) := hC.1 0 0 0 o0
  have b0 : v 0 0 0 ≤ 4 := (hB.1 0 0 0 o0).2
  refine x_Ct_w (by decide) (Nat.le_of_ble_eq_true rfl) ok168 [] 5 ?_
  refine Exists.intro _ (And.intro (c_hasKind rfl h0 bK) (And.intro (And.intro (Nat.zero_le _) (Nat.zero_le _)) (fun q h' hpo => ?_)))
  obtain ⟨rfl, rfl⟩ := hpo
  cases hb : x_ixb x (v 0 0 0) with
  | false =>
    refine And.intro (fun c => absurd rfl c) (fun _ => ?_)
    exact And.intro ⟨rfl, rfl⟩ ⟨trivial, Nat.le_refl _, Nat.le_refl _⟩
  | true =>
    refine And.intro (fun _ => ?_) (fun c => absurd c (by decide))
    obtain ⟨k, hk, rfl⟩ := x_ixb_t hb (by omega)
    have e : f 12 0 - 1 = nI (v 0 0 0 - 1) := by
      rw [h0, show v 0 0 0 = (v 0 0 0 - 1) + 1 by omega, nI_pred, Nat.add_sub_cancel]
    refine And.intro (fun c => ?_) (fun c => ?_)
    · have c : ¬ nI k = f 12 0 - 1 := c
      rw [e, nI_eq (by omega) (by omega)] at c
      exact And.intro ⟨(by rw [if_pos rfl, if_pos (by rw [x_c, nI_clamp (by omega)]; omega)]; rfl), rfl⟩ ⟨trivial, Nat.le_refl _, Nat.le_refl _⟩
    · have c : nI k = f 12 0 - 1 := c
      rw [e, nI_eq (by omega) (by omega)] at c
      exact And.intro ⟨(by rw [if_pos rfl, if_neg (by rw [x_c, nI_clamp (by omega)]; omega)]; rfl), rfl⟩ ⟨trivial, Nat.le_refl _, Nat.le_refl _⟩
theorem c_loses_12 {x y : Int32} (hC : v_C f g 12 v) (hB : v_B v) : x_Ct 140 (d + 3) [.ref 0, .int x, .int y] (f, g, x_HR 12 t, dm, n) (x_PC f g 12 (x_HR 12 t) dm n (sp_loses v x y)) := by
  have bK := v_B_K hB
  have bG := v_B_G hB
  have bP := v_B_P hB
  have o2 : v_ok v 2 0 0 := ⟨rfl, rfl⟩
  have h2 : f 12 2 = nI (v 2 0 0) := hC.1 2 0 0 o2
  have b2 : v 2 0 0 ≤ 5 := (hB.1 2 0 0 o2).2
  unfold sp_loses
  refine x_Ct_w (by decide) (Nat.le_of_ble_eq_true rfl) ok140 [] 8 ?_
  refine Exists.intro _ (And.intro (c_hasPerson rfl h2 bP) (And.intro (And.intro (Nat.zero_le _) (Nat.zero_le _)) (fun q h' hpo => ?_)))
  obtain ⟨rfl, rfl⟩ := hpo
  cases hb : x_ixb x (v 2 0 0) with
  | false =>
    refine And.intro (fun _ => ?_) (fun c => absurd rfl c)
    refine And.intro (fun c => absurd (show (1 : Int32) = 0 from c) (by decide)) (fun _ => ?_)
    refine Exists.intro _ (And.intro c_refuse (And.intro (And.intro (Nat.zero_le _) (Nat.zero_le _)) (fun q h' hpo => ?_)))
    obtain ⟨rfl, rfl⟩ := hpo
    refine And.intro ?_ ⟨trivial, Nat.le_refl _, Nat.le_refl _⟩
    exact x_PC_0 (by decide) hC
  | true =>
    refine And.intro (fun c => absurd c (by decide)) (fun _ => ?_)
    refine Exists.intro _ (And.intro (c_wrongRenewal_12 hC hB) (And.intro (And.intro (Nat.zero_le _) (Nat.zero_le _)) (fun q h' hpo => ?_)))
    obtain ⟨rfl, rfl⟩ := hpo
    cases hy : x_ixb y (v 0 0 0) with
    | false =>
      refine And.intro (fun c => absurd (show (1 : Int32) = 0 from c) (by decide)) (fun _ => ?_)
      refine Exists.intro _ (And.intro c_refuse (And.intro (And.intro (Nat.zero_le _) (Nat.zero_le _)) (fun q h' hpo => ?_)))
      obtain ⟨rfl, rfl⟩ := hpo
      refine And.intro ?_ ⟨trivial, Nat.le_refl _, Nat.le_refl _⟩
      exact x_PC_0 (by decide) hC
    | true =>
      rw [if_pos rfl]
      by_cases hk : x_c y + 1 < v 0 0 0
      · rw [if_pos hk, if_pos hk]
        refine And.intro (fun _ => ?_) (fun c => absurd rfl c)
        obtain ⟨p, hp, rfl⟩ := x_ixb_t hb (by omega)
        obtain ⟨k, hk', rfl⟩ := x_ixb_t hy (by omega)
        rw [x_c, nI_clamp (by omega)] at hk
        rw [x_c, x_c, nI_clamp (by omega), nI_clamp (by omega)]
        refine Exists.intro _ (And.intro (c_lossOf_12 hC hB hp hk) (And.intro (And.intro (Nat.zero_le _) (Nat.zero_le _)) (fun q h' hpo => ?_)))
        obtain ⟨rfl, rfl⟩ := hpo
        refine Exists.intro _ (And.intro c_answer (And.intro (And.intro (Nat.zero_le _) (Nat.zero_le _)) (fun q h' hpo => ?_)))
        obtain ⟨rfl, rfl⟩ := hpo
        refine And.intro ?_ ⟨trivial, Nat.le_refl _, Nat.le_refl _⟩
        exact x_PC_0 (by decide) hC
      · rw [if_neg hk, if_neg hk]
        refine And.intro (fun c => absurd (show (7 : Int32) = 0 from c) (by decide)) (fun _ => ?_)
        refine Exists.intro _ (And.intro c_refuse (And.intro (And.intro (Nat.zero_le _) (Nat.zero_le _)) (fun q h' hpo => ?_)))
        obtain ⟨rfl, rfl⟩ := hpo
        refine And.intro ?_ ⟨trivial, Nat.le_refl _, Nat.le_refl _⟩
        exact x_PC_0 (by decide) hC
theorem c_losers_12 {x : Int32} (hC : v_C f g 12 v) (hB : v_B v) : x_Ct 141 (d + 3) [.ref 0, .int x] (f, g, x_HR 12 t, dm, n) (x_PC f g 12 (x_HR 12 t) dm n (sp_losers v x)) := by
  have bK := v_B_K hB
  have bG := v_B_G hB
  have bP := v_B_P hB
  have o2 : v_ok v 2 0 0 := ⟨rfl, rfl⟩
  have h2 : f 12 2 = nI (v 2 0 0) := hC.1 2 0 0 o2
  have b2 : v 2 0 0 ≤ 5 := (hB.1 2 0 0 o2).2
  have loop : ∀ m p k, p + m = v 2 0 0 → k + 1 < v 0 0 0 → x_J 141 (d + 3) (x_PC f g 12 (x_HR 12 t) dm n (.int (v_losers v k (v 2 0 0)), 0, v)) 21 [some (.ref 0), some (.int (nI k)), some (.int 0), some (.int (v_losers v k p)), some (.int (nI p))] [] (f, g, x_HR 12 t, dm, n) 0 0 := by
    intro m
    induction m with
    | zero =>
      intro p k hp hk
      refine x_wp_ok ok141 [21] 4 ?_
      refine And.intro (fun c => ?_) (fun c => ?_)
      · rw [Nat.add_zero] at hp
        subst hp
        refine Exists.intro _ (And.intro c_answer (And.intro (And.intro (Nat.zero_le _) (Nat.zero_le _)) (fun q h' hpo => ?_)))
        obtain ⟨rfl, rfl⟩ := hpo
        refine And.intro ?_ ⟨trivial, Nat.le_refl _, Nat.le_refl _⟩
        exact x_PC_0 (by decide) hC
      · have c : ¬ f 12 2 ≤ nI p := c
        rw [h2] at c
        exact absurd (nI_le (by omega) (by omega)) c
    | succ m ih =>
      intro p k hp hk
      refine x_wp_ok ok141 [21] 4 ?_
      refine And.intro (fun c => ?_) (fun c => ?_)
      · have c : f 12 2 ≤ nI p := c
        rw [h2] at c
        exact absurd c (nI_ge (by omega) (by omega))
      · refine Exists.intro _ (And.intro (c_lossOf_12 hC hB (show p < v 2 0 0 by omega) hk) (And.intro (And.intro (Nat.zero_le _) (Nat.zero_le _)) (fun q h' hpo => ?_)))
        obtain ⟨rfl, rfl⟩ := hpo
        have e := ih (p + 1) k (by omega) hk
        rw [nI_succ, show v_losers v k (p + 1) = if 0 < v_loss v p k then v_losers v k p ||| (1 : Int32) <<< (nI p &&& 31) else v_losers v k p from rfl] at e
        refine And.intro (fun c => ?_) (fun c => ?_)
        · have c : v_loss v p k ≤ 0 := c
          rw [if_neg (Int32.not_lt.mpr c)] at e
          exact e
        · have c : ¬ v_loss v p k ≤ 0 := c
          rw [if_pos (Int32.not_le.mp c)] at e
          exact e
  unfold sp_losers
  refine x_Ct_w (by decide) (Nat.le_of_ble_eq_true rfl) ok141 [21] 6 ?_
  refine Exists.intro _ (And.intro (c_wrongRenewal_12 hC hB) (And.intro (And.intro (Nat.zero_le _) (Nat.zero_le _)) (fun q h' hpo => ?_)))
  obtain ⟨rfl, rfl⟩ := hpo
  cases hy : x_ixb x (v 0 0 0) with
  | false =>
    refine And.intro (fun c => absurd (show (1 : Int32) = 0 from c) (by decide)) (fun _ => ?_)
    refine Exists.intro _ (And.intro c_refuse (And.intro (And.intro (Nat.zero_le _) (Nat.zero_le _)) (fun q h' hpo => ?_)))
    obtain ⟨rfl, rfl⟩ := hpo
    refine And.intro ?_ ⟨trivial, Nat.le_refl _, Nat.le_refl _⟩
    exact x_PC_0 (by decide) hC
  | true =>
    rw [if_pos rfl]
    by_cases hk : x_c x + 1 < v 0 0 0
    · rw [if_pos hk, if_pos hk]
      refine And.intro (fun _ => ?_) (fun c => absurd rfl c)
      obtain ⟨k, hk', rfl⟩ := x_ixb_t hy (by omega)
      rw [x_c, nI_clamp (by omega)] at hk
      rw [x_c, nI_clamp (by omega)]
      exact loop (v 2 0 0) 0 k (Nat.zero_add _) hk
    · rw [if_neg hk, if_neg hk]
      refine And.intro (fun c => absurd (show (7 : Int32) = 0 from c) (by decide)) (fun _ => ?_)
      refine Exists.intro _ (And.intro c_refuse (And.intro (And.intro (Nat.zero_le _) (Nat.zero_le _)) (fun q h' hpo => ?_)))
      obtain ⟨rfl, rfl⟩ := hpo
      refine And.intro ?_ ⟨trivial, Nat.le_refl _, Nat.le_refl _⟩
      exact x_PC_0 (by decide) hC
theorem c_passMonths_12 {m : Nat} (hC : v_C f g 12 v) (hB : v_Bn N v) (hN : N + 998001 < 2 ^ 60) (hm : m ≤ 99) : x_Ct 17 (d + 3) [.ref 12, .int (nI m)] (f, g, x_HR r t, dm, n) (if 9999 < v 6 0 0 + m then (fun q h' => q = some (.int 0) ∧ h' = (f, g, x_HR r t, dm, n)) else x_PL f g 12 (x_HR r t) dm n (.int 1) (d_mon v m)) := by
  have hBn := hB
  have hB := v_Bn_B hBn (by omega)
  have bK := v_B_K hB
  have bG := v_B_G hB
  have bP := v_B_P hB
  have o6 : v_ok v 6 0 0 := ⟨rfl, rfl⟩
  have h6 : f 12 3 = nI (v 6 0 0) := hC.1 6 0 0 o6
  have b6 : v 6 0 0 ≤ 9999 := (hB.1 6 0 0 o6).2
  have o8 : v_ok v 8 0 0 := ⟨rfl, rfl⟩
  have h8 : f 12 5 = nI (v 8 0 0) := hC.1 8 0 0 o8
  have b8 : v 8 0 0 ≤ 9989001 := (hB.1 8 0 0 o8).2
  have o5 : v_ok v 5 0 0 := ⟨rfl, rfl⟩
  have h5 : f 13 2 = nI (v 5 0 0) := hC.1 5 0 0 o5
  have b5 : v 5 0 0 ≤ 999 := (hB.1 5 0 0 o5).2
  have o3 : v_ok v 3 0 0 := ⟨rfl, rfl⟩
  have h3 : f 13 0 = nI (v 3 0 0) := hC.1 3 0 0 o3
  have b3 : v 3 0 0 ≤ 9999 := (hB.1 3 0 0 o3).2
  have l3 : 10 ≤ v 3 0 0 := (hB.1 3 0 0 o3).1
  have bm : m * v 5 0 0 ≤ 99 * 999 := Nat.mul_le_mul hm b5
  refine x_Ct_w (by decide) (Nat.le_of_ble_eq_true rfl) ok17 [] 4 ?_
  refine And.intro (fun c => ?_) (fun c => ?_)
  · have c : f 12 3 + nI m ≤ nI 9999 := c
    rw [h6, nI_add, nI_leI (by omega) (by omega)] at c
    rw [if_neg (by omega)]
    refine And.intro (x_ix_nI (j := 2) (by decide) (by decide)) ?_
    refine And.intro (x_ix_nI (j := 2) (by decide) (by decide)) ?_
    have e1 := x_LC_16 (x_LC_set (x_LC_set (x_LC_0 hC) bK bG o6 (x := v 6 0 0 + m) (by decide)) bK bG (c := 8) (i := 0) (j := 0) (x := v 8 0 0 + m * v 5 0 0) ⟨rfl, rfl⟩ (by decide)) (v 16 0 0 + m * v 5 0 0)
    have hB1 := v_Bn_B (v_Bn_mon1 hBn (m := m) (by omega) (by omega)) hN
    have bo := v_out_le hB1
    have e2 := c_outNow_12 (v := d_mon1 v m) (r := r) (t := t) (dm := dm) (n := n) (d := d) e1.1 hB1
    have e3 := c_levelAfter_12 (v := d_mon1 v m) (r := r) (t := t) (dm := dm) (n := n) (d := d) (m := 0) (o := v_out (d_mon1 v m)) e1.1 hB1 (by omega) (by omega)
    rw [Nat.zero_mul, Nat.add_zero] at e3
    rw [show d_mon1 v m 3 0 0 = v 3 0 0 from rfl] at e3
    have e4 := x_LC_set e1 bK bG (c := 7) (i := 0) (j := 0) (x := 1 + v_out (d_mon1 v m) / v 3 0 0) ⟨rfl, rfl⟩ (by decide)
    rw [← nI_add, ← h6, ← nI_add, ← pk_mul, ← h8, ← lN_add, ← lN_mul, ← nI_l (show m < 2 ^ 31 by omega), ← nI_l (show v 5 0 0 < 2 ^ 31 by omega), ← h5, ← hC.2.1] at e2 e3 e4
    refine Exists.intro _ (And.intro e2 (And.intro (And.intro (Nat.zero_le _) (Nat.zero_le _)) (fun q h' hpo => ?_)))
    obtain ⟨rfl, rfl⟩ := hpo
    refine Exists.intro _ (And.intro e3 (And.intro (And.intro (Nat.zero_le _) (Nat.zero_le _)) (fun q h' hpo => ?_)))
    obtain ⟨rfl, rfl⟩ := hpo
    refine And.intro ?_ ⟨Or.inr rfl, Nat.le_refl _, Nat.le_refl _⟩
    exact ⟨_, _, rfl, rfl, e4.1, e4.2.1, e4.2.2⟩
  · have c : ¬ f 12 3 + nI m ≤ nI 9999 := c
    rw [h6, nI_add, nI_leI (by omega) (by omega)] at c
    rw [if_pos (by omega)]
    exact And.intro ⟨rfl, rfl⟩ ⟨Or.inl rfl, Nat.le_refl _, Nat.le_refl _⟩
theorem c_month_12 {x : Int32} (hC : v_C f g 12 v) (hB : v_Bn N v) (hN : N + 998001 < 2 ^ 60) : x_Ct 125 (d + 4) [.ref 0, .int x] (f, g, x_HR 12 t, dm, n) (x_PC f g 12 (x_HR 12 t) dm n (sp_month v x)) := by
  unfold sp_month
  refine x_Ct_w (by decide) (Nat.le_of_ble_eq_true rfl) ok125 [] 6 ?_
  refine Exists.intro _ (And.intro (c_within (lo := 1) (hi := 99)) (And.intro (And.intro (Nat.zero_le _) (Nat.zero_le _)) (fun q h' hpo => ?_)))
  obtain ⟨rfl, rfl⟩ := hpo
  cases hz : x_wi x 1 99 with
  | false =>
    refine And.intro (fun c => absurd rfl c) (fun _ => ?_)
    refine Exists.intro _ (And.intro c_refuse (And.intro (And.intro (Nat.zero_le _) (Nat.zero_le _)) (fun q h' hpo => ?_)))
    obtain ⟨rfl, rfl⟩ := hpo
    refine And.intro ?_ ⟨trivial, Nat.le_refl _, Nat.le_refl _⟩
    exact x_PC_0 (by decide) hC
  | true =>
    refine And.intro (fun _ => ?_) (fun c => absurd c (by decide))
    obtain ⟨m, hm1, hm, rfl⟩ := x_wi_t (lo := 1) (hi := 99) hz (by decide) (by decide)
    rw [x_c, nI_clamp (by omega)]
    unfold s_mon
    refine Exists.intro _ (And.intro (c_passMonths_12 hC hB hN hm) (And.intro (And.intro (Nat.zero_le _) (Nat.zero_le _)) (fun q h' hpo => ?_)))
    by_cases hc : 9999 < v 6 0 0 + m
    · rw [if_pos hc] at hpo
      rw [if_pos hc]
      obtain ⟨rfl, rfl⟩ := hpo
      refine And.intro (fun c => absurd rfl c) (fun _ => ?_)
      refine Exists.intro _ (And.intro c_refuse (And.intro (And.intro (Nat.zero_le _) (Nat.zero_le _)) (fun q h' hpo => ?_)))
      obtain ⟨rfl, rfl⟩ := hpo
      refine And.intro ?_ ⟨trivial, Nat.le_refl _, Nat.le_refl _⟩
      exact x_PC_0 (by decide) hC
    · rw [if_neg hc] at hpo
      rw [if_neg hc]
      obtain ⟨F, G, rfl, rfl, hC', hg', hf'⟩ := hpo
      refine And.intro (fun _ => ?_) (fun c => absurd c (by decide))
      refine Exists.intro _ (And.intro c_answer (And.intro (And.intro (Nat.zero_le _) (Nat.zero_le _)) (fun q h' hpo => ?_)))
      obtain ⟨rfl, rfl⟩ := hpo
      refine And.intro ?_ ⟨trivial, Nat.le_refl _, Nat.le_refl _⟩
      rw [show (1 + v_out (d_mon1 v m) / v 3 0 0) = d_mon v m 7 0 0 from (v_set_s _ _ _ _ _).symm, ← hC'.1 7 0 0 ⟨rfl, rfl⟩]
      exact x_PC_F (by decide) hC' hg' hf'
theorem c_renewAll_12 {k : Nat} (hC : v_C f g 12 v) (hB : v_Bn N v) (hN : N + 2 ^ 33 < 2 ^ 60) (hk : k + 1 < v 0 0 0) : x_Ct 32 (d + 2) [.ref 12, .int (nI k)] (f, g, x_HR r t, dm, n) (fun q h' => ∃ F G, h' = (F, G, x_HR r t, dm, n) ∧ q = none ∧ x_LC f g 12 F G (d_renew v k (v 2 0 0))) := by
  have hB0 := v_Bn_B hB (by omega)
  have bP0 := v_B_P hB0
  have loop : ∀ m p F G l3 l4, p + m = v 2 0 0 → x_LC f g 12 F G (d_renew v k p) → x_J 32 (d + 2) (fun q h' => ∃ F G, h' = (F, G, x_HR r t, dm, n) ∧ q = none ∧ x_LC f g 12 F G (d_renew v k (v 2 0 0))) 2 [some (.ref 12), some (.int (nI k)), some (.int (nI p)), l3, l4] [] (F, G, x_HR r t, dm, n) 0 0 := by
    intro m
    induction m with
    | zero =>
      intro p F G l3 l4 hp hF
      have h2 : F 12 2 = nI (v 2 0 0) := (hF.1.1 2 0 0 ⟨rfl, rfl⟩).trans (congrArg nI (d_renew_c (by decide) (by decide) (by decide) (by decide) p))
      refine x_wp_ok ok32 [2] 3 ?_
      refine And.intro (fun c => ?_) (fun c => ?_)
      · rw [Nat.add_zero] at hp
        subst hp
        refine And.intro ?_ ⟨trivial, Nat.le_refl _, Nat.le_refl _⟩
        exact ⟨F, G, rfl, rfl, hF⟩
      · have c : ¬ F 12 2 ≤ nI p := c
        rw [h2] at c
        exact absurd (nI_le (by omega) (by omega)) c
    | succ m ih =>
      intro p F G l3 l4 hp hF
      have hBn := v_Bn_renew hB hk p (by omega)
      have hB := v_Bn_B hBn (by omega)
      have ew : ∀ c i j, c ≠ 13 → c ≠ 14 → c ≠ 16 → c ≠ 17 → d_renew v k p c i j = v c i j := fun c i j a b e e2 => d_renew_c a b e e2 p
      have h2' := ew 2 0 0 (by decide) (by decide) (by decide) (by decide)
      have h0' := ew 0 0 0 (by decide) (by decide) (by decide) (by decide)
      have hv : d_renew v k (p + 1) = d_ren1 (d_renew v k p) p k := rfl
      generalize hw : d_renew v k p = w at *
      have bK := v_B_K hB
      have bG := v_B_G hB
      have o13 : v_ok w 13 p k := show p < w 2 0 0 ∧ k < w 0 0 0 from ⟨by omega, by omega⟩
      have o14 : v_ok w 14 p k := show p < w 2 0 0 ∧ k < w 0 0 0 from ⟨by omega, by omega⟩
      have o13' : v_ok w 13 p (k + 1) := show p < w 2 0 0 ∧ k + 1 < w 0 0 0 from ⟨by omega, by omega⟩
      have o9 : v_ok w 9 k 0 := show k < w 0 0 0 ∧ 0 = 0 from ⟨by omega, rfl⟩
      have o9' : v_ok w 9 (k + 1) 0 := show k + 1 < w 0 0 0 ∧ 0 = 0 from ⟨by omega, rfl⟩
      have h2 : F 12 2 = nI (w 2 0 0) := hF.1.1 2 0 0 ⟨rfl, rfl⟩
      have h13 : F 19 (4 * p + k) = nI (w 13 p k) := hF.1.1 13 p k o13
      have h14 : F 20 (4 * p + k) = nI (w 14 p k) := hF.1.1 14 p k o14
      have h13' : F 19 (4 * p + (k + 1)) = nI (w 13 p (k + 1)) := hF.1.1 13 p (k + 1) o13'
      have h9 : F 15 k = nI (w 9 k 0) := hF.1.1 9 k 0 o9
      have h9' : F 15 (k + 1) = nI (w 9 (k + 1) 0) := hF.1.1 9 (k + 1) 0 o9'
      have b13 : w 13 p k ≤ 9999 := (hB.1 13 p k o13).2
      have b14 : w 14 p k ≤ 9999 := (hB.1 14 p k o14).2
      have b9 : w 9 k 0 ≤ 500 := (hB.1 9 k 0 o9).2
      have b9' : w 9 (k + 1) 0 ≤ 500 := (hB.1 9 (k + 1) 0 o9').2
      have br : d_ren w p k ≤ 9999 - w 13 p (k + 1) := Nat.min_le_right _ _
      refine x_wp_ok ok32 [2] 3 ?_
      refine And.intro (fun c => ?_) (fun c => ?_)
      · have c : F 12 2 ≤ nI p := c
        rw [h2] at c
        exact absurd c (nI_ge (by omega) (by omega))
      · refine Exists.intro _ (And.intro c_purse (And.intro (And.intro (Nat.zero_le _) (Nat.zero_le _)) (fun q h' hpo => ?_)))
        obtain ⟨rfl, rfl⟩ := hpo
        rw [x_pl4]
        refine Exists.intro _ (And.intro (c_renewedFor_12 hF.1 hB (by omega) (by omega)) (And.intro (And.intro (Nat.zero_le _) (Nat.zero_le _)) (fun q h' hpo => ?_)))
        obtain ⟨rfl, rfl⟩ := hpo
        refine And.intro (x_ix_nI (by omega) (by omega)) ?_
        rw [nI_clamp (by omega)]
        refine And.intro (x_ix_nI (by omega) (by omega)) ?_
        rw [nI_clamp (by omega)]
        refine And.intro (x_ix_nI (by omega) (by omega)) ?_
        rw [nI_clamp (by omega)]
        refine And.intro (by rw [nI_1o]; exact x_ix_nI (by omega) (by omega)) ?_
        refine And.intro (x_ix_nI (by omega) (by omega)) ?_
        rw [nI_clamp (by omega)]
        refine And.intro (x_ix_nI (by omega) (by omega)) ?_
        rw [nI_clamp (by omega)]
        refine Exists.intro _ (And.intro c_purse (And.intro (And.intro (Nat.zero_le _) (Nat.zero_le _)) (fun q h' hpo => ?_)))
        obtain ⟨rfl, rfl⟩ := hpo
        rw [nI_1o, x_pl4]
        refine And.intro (x_ix_nI (by omega) (by omega)) ?_
        rw [nI_clamp (by omega)]
        refine And.intro (x_ix_nI (by omega) (by omega)) ?_
        rw [nI_clamp (by omega)]
        have e := x_LC_set (x_LC_set (x_LC_set (x_LC_16 (x_LC_17 hF (w 17 0 0 + (w 13 p k + w 14 p k) * w 9 k 0)) (w 16 0 0 + d_ren w p k * w 9 (k + 1) 0)) bK bG (c := 13) (i := p) (j := k) (x := 0) o13 (by decide)) bK bG (c := 14) (i := p) (j := k) (x := 0) o14 (by decide)) bK bG (c := 13) (i := p) (j := k + 1) (x := w 13 p (k + 1) + d_ren w p k) o13' (by decide)
        have e5 := ih (p + 1) _ _ (some (.int (nI (4 * p + k)))) (some (.int (nI (d_ren w p k)))) (by omega) (by rw [hv]; exact e)
        have e13 : x_up F 19 (4 * p + k) (nI 0) 19 (4 * p + (k + 1)) = nI (w 13 p (k + 1)) := (x_up_j (by omega)).trans h13'
        rw [← lN_add, ← lN_mul, ← nI_l (show w 13 p k + w 14 p k < 2 ^ 31 by omega), ← nI_l (show w 9 k 0 < 2 ^ 31 by omega), ← nI_add (w 13 p k), ← h13, ← h14, ← h9, ← hF.1.2.2, ← lN_add, ← lN_mul, ← nI_l (show d_ren w p k < 2 ^ 31 by omega), ← nI_l (show w 9 (k + 1) 0 < 2 ^ 31 by omega), ← h9', ← hF.1.2.1, ← nI_add (w 13 p (k + 1)), ← e13, nI_succ] at e5
        exact e5
  exact x_Ct_w (by decide) (Nat.le_of_ble_eq_true rfl) ok32 [2] 3 (loop (v 2 0 0) 0 f g _ _ (Nat.zero_add _) (x_LC_0 hC))
theorem c_renew_12 {x : Int32} (hC : v_C f g 12 v) (hB : v_Bn N v) (hN : N + 2 ^ 33 < 2 ^ 60) : x_Ct 124 (d + 3) [.ref 0, .int x] (f, g, x_HR 12 t, dm, n) (x_PC f g 12 (x_HR 12 t) dm n (sp_renew v x)) := by
  have hBn := hB
  have hB := v_Bn_B hBn (by omega)
  have bK := v_B_K hB
  have bG := v_B_G hB
  have bP := v_B_P hB
  unfold sp_renew s_renew
  refine x_Ct_w (by decide) (Nat.le_of_ble_eq_true rfl) ok124 [] 6 ?_
  refine Exists.intro _ (And.intro (c_wrongRenewal_12 hC hB) (And.intro (And.intro (Nat.zero_le _) (Nat.zero_le _)) (fun q h' hpo => ?_)))
  obtain ⟨rfl, rfl⟩ := hpo
  cases hy : x_ixb x (v 0 0 0) with
  | false =>
    refine And.intro (fun c => absurd (show (1 : Int32) = 0 from c) (by decide)) (fun _ => ?_)
    refine Exists.intro _ (And.intro c_refuse (And.intro (And.intro (Nat.zero_le _) (Nat.zero_le _)) (fun q h' hpo => ?_)))
    obtain ⟨rfl, rfl⟩ := hpo
    refine And.intro ?_ ⟨trivial, Nat.le_refl _, Nat.le_refl _⟩
    exact x_PC_0 (by decide) hC
  | true =>
    rw [if_pos rfl]
    by_cases hk : x_c x + 1 < v 0 0 0
    · rw [if_pos hk, if_pos hk]
      refine And.intro (fun _ => ?_) (fun c => absurd rfl c)
      obtain ⟨k, hk', rfl⟩ := x_ixb_t hy (by omega)
      rw [x_c, nI_clamp (by omega)] at hk
      rw [x_c, nI_clamp (by omega)]
      refine Exists.intro _ (And.intro (c_outNow_12 hC hB) (And.intro (And.intro (Nat.zero_le _) (Nat.zero_le _)) (fun q h' hpo => ?_)))
      obtain ⟨rfl, rfl⟩ := hpo
      refine Exists.intro _ (And.intro (c_renewAll_12 hC hBn hN hk) (And.intro (And.intro (Nat.zero_le _) (Nat.zero_le _)) (fun q h' hpo => ?_)))
      obtain ⟨F, G, rfl, rfl, hF⟩ := hpo
      refine Exists.intro _ (And.intro (c_outNow_12 hF.1 (v_Bn_B (v_Bn_renew hBn hk _ (Nat.le_refl _)) (by omega))) (And.intro (And.intro (Nat.zero_le _) (Nat.zero_le _)) (fun q h' hpo => ?_)))
      obtain ⟨rfl, rfl⟩ := hpo
      refine Exists.intro _ (And.intro c_answer (And.intro (And.intro (Nat.zero_le _) (Nat.zero_le _)) (fun q h' hpo => ?_)))
      obtain ⟨rfl, rfl⟩ := hpo
      refine And.intro ?_ ⟨trivial, Nat.le_refl _, Nat.le_refl _⟩
      exact x_PC_L (by decide) hF
    · rw [if_neg hk, if_neg hk]
      refine And.intro (fun c => absurd (show (7 : Int32) = 0 from c) (by decide)) (fun _ => ?_)
      refine Exists.intro _ (And.intro c_refuse (And.intro (And.intro (Nat.zero_le _) (Nat.zero_le _)) (fun q h' hpo => ?_)))
      obtain ⟨rfl, rfl⟩ := hpo
      refine And.intro ?_ ⟨trivial, Nat.le_refl _, Nat.le_refl _⟩
      exact x_PC_0 (by decide) hC
theorem c_wrongRenewal_22 {x : Int32} (hC : v_C f g 22 v) (hB : v_B v) : x_V 168 (d + 1) [.ref 0, .int x] (f, g, x_HR 22 t, dm, n) (.int (if x_ixb x (v 0 0 0) then (if x_c x + 1 < v 0 0 0 then 0 else 7) else 1)) (f, g, x_HR 22 t, dm, n) := by
  have bK := v_B_K hB
  have bG := v_B_G hB
  have bP := v_B_P hB
  have o0 : v_ok v 0 0 0 := ⟨rfl, rfl⟩
  have h0 : f 22 0 = nI (v 0 0 0) := hC.1 0 0 0 o0
  have b0 : v 0 0 0 ≤ 4 := (hB.1 0 0 0 o0).2
  refine x_Ct_w (by decide) (Nat.le_of_ble_eq_true rfl) ok168 [] 5 ?_
  refine Exists.intro _ (And.intro (c_hasKind rfl h0 bK) (And.intro (And.intro (Nat.zero_le _) (Nat.zero_le _)) (fun q h' hpo => ?_)))
  obtain ⟨rfl, rfl⟩ := hpo
  cases hb : x_ixb x (v 0 0 0) with
  | false =>
    refine And.intro (fun c => absurd rfl c) (fun _ => ?_)
    exact And.intro ⟨rfl, rfl⟩ ⟨trivial, Nat.le_refl _, Nat.le_refl _⟩
  | true =>
    refine And.intro (fun _ => ?_) (fun c => absurd c (by decide))
    obtain ⟨k, hk, rfl⟩ := x_ixb_t hb (by omega)
    have e : f 22 0 - 1 = nI (v 0 0 0 - 1) := by
      rw [h0, show v 0 0 0 = (v 0 0 0 - 1) + 1 by omega, nI_pred, Nat.add_sub_cancel]
    refine And.intro (fun c => ?_) (fun c => ?_)
    · have c : ¬ nI k = f 22 0 - 1 := c
      rw [e, nI_eq (by omega) (by omega)] at c
      exact And.intro ⟨(by rw [if_pos rfl, if_pos (by rw [x_c, nI_clamp (by omega)]; omega)]; rfl), rfl⟩ ⟨trivial, Nat.le_refl _, Nat.le_refl _⟩
    · have c : nI k = f 22 0 - 1 := c
      rw [e, nI_eq (by omega) (by omega)] at c
      exact And.intro ⟨(by rw [if_pos rfl, if_neg (by rw [x_c, nI_clamp (by omega)]; omega)]; rfl), rfl⟩ ⟨trivial, Nat.le_refl _, Nat.le_refl _⟩
theorem c_loses_22 {x y : Int32} (hC : v_C f g 22 v) (hB : v_B v) : x_Ct 140 (d + 3) [.ref 0, .int x, .int y] (f, g, x_HR 22 t, dm, n) (x_PC f g 22 (x_HR 22 t) dm n (sp_loses v x y)) := by
  have bK := v_B_K hB
  have bG := v_B_G hB
  have bP := v_B_P hB
  have o2 : v_ok v 2 0 0 := ⟨rfl, rfl⟩
  have h2 : f 22 2 = nI (v 2 0 0) := hC.1 2 0 0 o2
  have b2 : v 2 0 0 ≤ 5 := (hB.1 2 0 0 o2).2
  unfold sp_loses
  refine x_Ct_w (by decide) (Nat.le_of_ble_eq_true rfl) ok140 [] 8 ?_
  refine Exists.intro _ (And.intro (c_hasPerson rfl h2 bP) (And.intro (And.intro (Nat.zero_le _) (Nat.zero_le _)) (fun q h' hpo => ?_)))
  obtain ⟨rfl, rfl⟩ := hpo
  cases hb : x_ixb x (v 2 0 0) with
  | false =>
    refine And.intro (fun _ => ?_) (fun c => absurd rfl c)
    refine And.intro (fun c => absurd (show (1 : Int32) = 0 from c) (by decide)) (fun _ => ?_)
    refine Exists.intro _ (And.intro c_refuse (And.intro (And.intro (Nat.zero_le _) (Nat.zero_le _)) (fun q h' hpo => ?_)))
    obtain ⟨rfl, rfl⟩ := hpo
    refine And.intro ?_ ⟨trivial, Nat.le_refl _, Nat.le_refl _⟩
    exact x_PC_0 (by decide) hC
  | true =>
    refine And.intro (fun c => absurd c (by decide)) (fun _ => ?_)
    refine Exists.intro _ (And.intro (c_wrongRenewal_22 hC hB) (And.intro (And.intro (Nat.zero_le _) (Nat.zero_le _)) (fun q h' hpo => ?_)))
    obtain ⟨rfl, rfl⟩ := hpo
    cases hy : x_ixb y (v 0 0 0) with
    | false =>
      refine And.intro (fun c => absurd (show (1 : Int32) = 0 from c) (by decide)) (fun _ => ?_)
      refine Exists.intro _ (And.intro c_refuse (And.intro (And.intro (Nat.zero_le _) (Nat.zero_le _)) (fun q h' hpo => ?_)))
      obtain ⟨rfl, rfl⟩ := hpo
      refine And.intro ?_ ⟨trivial, Nat.le_refl _, Nat.le_refl _⟩
      exact x_PC_0 (by decide) hC
    | true =>
      rw [if_pos rfl]
      by_cases hk : x_c y + 1 < v 0 0 0
      · rw [if_pos hk, if_pos hk]
        refine And.intro (fun _ => ?_) (fun c => absurd rfl c)
        obtain ⟨p, hp, rfl⟩ := x_ixb_t hb (by omega)
        obtain ⟨k, hk', rfl⟩ := x_ixb_t hy (by omega)
        rw [x_c, nI_clamp (by omega)] at hk
        rw [x_c, x_c, nI_clamp (by omega), nI_clamp (by omega)]
        refine Exists.intro _ (And.intro (c_lossOf_22 hC hB hp hk) (And.intro (And.intro (Nat.zero_le _) (Nat.zero_le _)) (fun q h' hpo => ?_)))
        obtain ⟨rfl, rfl⟩ := hpo
        refine Exists.intro _ (And.intro c_answer (And.intro (And.intro (Nat.zero_le _) (Nat.zero_le _)) (fun q h' hpo => ?_)))
        obtain ⟨rfl, rfl⟩ := hpo
        refine And.intro ?_ ⟨trivial, Nat.le_refl _, Nat.le_refl _⟩
        exact x_PC_0 (by decide) hC
      · rw [if_neg hk, if_neg hk]
        refine And.intro (fun c => absurd (show (7 : Int32) = 0 from c) (by decide)) (fun _ => ?_)
        refine Exists.intro _ (And.intro c_refuse (And.intro (And.intro (Nat.zero_le _) (Nat.zero_le _)) (fun q h' hpo => ?_)))
        obtain ⟨rfl, rfl⟩ := hpo
        refine And.intro ?_ ⟨trivial, Nat.le_refl _, Nat.le_refl _⟩
        exact x_PC_0 (by decide) hC
theorem c_losers_22 {x : Int32} (hC : v_C f g 22 v) (hB : v_B v) : x_Ct 141 (d + 3) [.ref 0, .int x] (f, g, x_HR 22 t, dm, n) (x_PC f g 22 (x_HR 22 t) dm n (sp_losers v x)) := by
  have bK := v_B_K hB
  have bG := v_B_G hB
  have bP := v_B_P hB
  have o2 : v_ok v 2 0 0 := ⟨rfl, rfl⟩
  have h2 : f 22 2 = nI (v 2 0 0) := hC.1 2 0 0 o2
  have b2 : v 2 0 0 ≤ 5 := (hB.1 2 0 0 o2).2
  have loop : ∀ m p k, p + m = v 2 0 0 → k + 1 < v 0 0 0 → x_J 141 (d + 3) (x_PC f g 22 (x_HR 22 t) dm n (.int (v_losers v k (v 2 0 0)), 0, v)) 21 [some (.ref 0), some (.int (nI k)), some (.int 0), some (.int (v_losers v k p)), some (.int (nI p))] [] (f, g, x_HR 22 t, dm, n) 0 0 := by
    intro m
    induction m with
    | zero =>
      intro p k hp hk
      refine x_wp_ok ok141 [21] 4 ?_
      refine And.intro (fun c => ?_) (fun c => ?_)
      · rw [Nat.add_zero] at hp
        subst hp
        refine Exists.intro _ (And.intro c_answer (And.intro (And.intro (Nat.zero_le _) (Nat.zero_le _)) (fun q h' hpo => ?_)))
        obtain ⟨rfl, rfl⟩ := hpo
        refine And.intro ?_ ⟨trivial, Nat.le_refl _, Nat.le_refl _⟩
        exact x_PC_0 (by decide) hC
      · have c : ¬ f 22 2 ≤ nI p := c
        rw [h2] at c
        exact absurd (nI_le (by omega) (by omega)) c
    | succ m ih =>
      intro p k hp hk
      refine x_wp_ok ok141 [21] 4 ?_
      refine And.intro (fun c => ?_) (fun c => ?_)
      · have c : f 22 2 ≤ nI p := c
        rw [h2] at c
        exact absurd c (nI_ge (by omega) (by omega))
      · refine Exists.intro _ (And.intro (c_lossOf_22 hC hB (show p < v 2 0 0 by omega) hk) (And.intro (And.intro (Nat.zero_le _) (Nat.zero_le _)) (fun q h' hpo => ?_)))
        obtain ⟨rfl, rfl⟩ := hpo
        have e := ih (p + 1) k (by omega) hk
        rw [nI_succ, show v_losers v k (p + 1) = if 0 < v_loss v p k then v_losers v k p ||| (1 : Int32) <<< (nI p &&& 31) else v_losers v k p from rfl] at e
        refine And.intro (fun c => ?_) (fun c => ?_)
        · have c : v_loss v p k ≤ 0 := c
          rw [if_neg (Int32.not_lt.mpr c)] at e
          exact e
        · have c : ¬ v_loss v p k ≤ 0 := c
          rw [if_pos (Int32.not_le.mp c)] at e
          exact e
  unfold sp_losers
  refine x_Ct_w (by decide) (Nat.le_of_ble_eq_true rfl) ok141 [21] 6 ?_
  refine Exists.intro _ (And.intro (c_wrongRenewal_22 hC hB) (And.intro (And.intro (Nat.zero_le _) (Nat.zero_le _)) (fun q h' hpo => ?_)))
  obtain ⟨rfl, rfl⟩ := hpo
  cases hy : x_ixb x (v 0 0 0) with
  | false =>
    refine And.intro (fun c => absurd (show (1 : Int32) = 0 from c) (by decide)) (fun _ => ?_)
    refine Exists.intro _ (And.intro c_refuse (And.intro (And.intro (Nat.zero_le _) (Nat.zero_le _)) (fun q h' hpo => ?_)))
    obtain ⟨rfl, rfl⟩ := hpo
    refine And.intro ?_ ⟨trivial, Nat.le_refl _, Nat.le_refl _⟩
    exact x_PC_0 (by decide) hC
  | true =>
    rw [if_pos rfl]
    by_cases hk : x_c x + 1 < v 0 0 0
    · rw [if_pos hk, if_pos hk]
      refine And.intro (fun _ => ?_) (fun c => absurd rfl c)
      obtain ⟨k, hk', rfl⟩ := x_ixb_t hy (by omega)
      rw [x_c, nI_clamp (by omega)] at hk
      rw [x_c, nI_clamp (by omega)]
      exact loop (v 2 0 0) 0 k (Nat.zero_add _) hk
    · rw [if_neg hk, if_neg hk]
      refine And.intro (fun c => absurd (show (7 : Int32) = 0 from c) (by decide)) (fun _ => ?_)
      refine Exists.intro _ (And.intro c_refuse (And.intro (And.intro (Nat.zero_le _) (Nat.zero_le _)) (fun q h' hpo => ?_)))
      obtain ⟨rfl, rfl⟩ := hpo
      refine And.intro ?_ ⟨trivial, Nat.le_refl _, Nat.le_refl _⟩
      exact x_PC_0 (by decide) hC
theorem c_passMonths_22 {m : Nat} (hC : v_C f g 22 v) (hB : v_Bn N v) (hN : N + 998001 < 2 ^ 60) (hm : m ≤ 99) : x_Ct 17 (d + 3) [.ref 22, .int (nI m)] (f, g, x_HR r t, dm, n) (if 9999 < v 6 0 0 + m then (fun q h' => q = some (.int 0) ∧ h' = (f, g, x_HR r t, dm, n)) else x_PL f g 22 (x_HR r t) dm n (.int 1) (d_mon v m)) := by
  have hBn := hB
  have hB := v_Bn_B hBn (by omega)
  have bK := v_B_K hB
  have bG := v_B_G hB
  have bP := v_B_P hB
  have o6 : v_ok v 6 0 0 := ⟨rfl, rfl⟩
  have h6 : f 22 3 = nI (v 6 0 0) := hC.1 6 0 0 o6
  have b6 : v 6 0 0 ≤ 9999 := (hB.1 6 0 0 o6).2
  have o8 : v_ok v 8 0 0 := ⟨rfl, rfl⟩
  have h8 : f 22 5 = nI (v 8 0 0) := hC.1 8 0 0 o8
  have b8 : v 8 0 0 ≤ 9989001 := (hB.1 8 0 0 o8).2
  have o5 : v_ok v 5 0 0 := ⟨rfl, rfl⟩
  have h5 : f 23 2 = nI (v 5 0 0) := hC.1 5 0 0 o5
  have b5 : v 5 0 0 ≤ 999 := (hB.1 5 0 0 o5).2
  have o3 : v_ok v 3 0 0 := ⟨rfl, rfl⟩
  have h3 : f 23 0 = nI (v 3 0 0) := hC.1 3 0 0 o3
  have b3 : v 3 0 0 ≤ 9999 := (hB.1 3 0 0 o3).2
  have l3 : 10 ≤ v 3 0 0 := (hB.1 3 0 0 o3).1
  have bm : m * v 5 0 0 ≤ 99 * 999 := Nat.mul_le_mul hm b5
  refine x_Ct_w (by decide) (Nat.le_of_ble_eq_true rfl) ok17 [] 4 ?_
  refine And.intro (fun c => ?_) (fun c => ?_)
  · have c : f 22 3 + nI m ≤ nI 9999 := c
    rw [h6, nI_add, nI_leI (by omega) (by omega)] at c
    rw [if_neg (by omega)]
    refine And.intro (x_ix_nI (j := 2) (by decide) (by decide)) ?_
    refine And.intro (x_ix_nI (j := 2) (by decide) (by decide)) ?_
    have e1 := x_LC_16 (x_LC_set (x_LC_set (x_LC_0 hC) bK bG o6 (x := v 6 0 0 + m) (by decide)) bK bG (c := 8) (i := 0) (j := 0) (x := v 8 0 0 + m * v 5 0 0) ⟨rfl, rfl⟩ (by decide)) (v 16 0 0 + m * v 5 0 0)
    have hB1 := v_Bn_B (v_Bn_mon1 hBn (m := m) (by omega) (by omega)) hN
    have bo := v_out_le hB1
    have e2 := c_outNow_22 (v := d_mon1 v m) (r := r) (t := t) (dm := dm) (n := n) (d := d) e1.1 hB1
    have e3 := c_levelAfter_22 (v := d_mon1 v m) (r := r) (t := t) (dm := dm) (n := n) (d := d) (m := 0) (o := v_out (d_mon1 v m)) e1.1 hB1 (by omega) (by omega)
    rw [Nat.zero_mul, Nat.add_zero] at e3
    rw [show d_mon1 v m 3 0 0 = v 3 0 0 from rfl] at e3
    have e4 := x_LC_set e1 bK bG (c := 7) (i := 0) (j := 0) (x := 1 + v_out (d_mon1 v m) / v 3 0 0) ⟨rfl, rfl⟩ (by decide)
    rw [← nI_add, ← h6, ← nI_add, ← pk_mul, ← h8, ← lN_add, ← lN_mul, ← nI_l (show m < 2 ^ 31 by omega), ← nI_l (show v 5 0 0 < 2 ^ 31 by omega), ← h5, ← hC.2.1] at e2 e3 e4
    refine Exists.intro _ (And.intro e2 (And.intro (And.intro (Nat.zero_le _) (Nat.zero_le _)) (fun q h' hpo => ?_)))
    obtain ⟨rfl, rfl⟩ := hpo
    refine Exists.intro _ (And.intro e3 (And.intro (And.intro (Nat.zero_le _) (Nat.zero_le _)) (fun q h' hpo => ?_)))
    obtain ⟨rfl, rfl⟩ := hpo
    refine And.intro ?_ ⟨Or.inr rfl, Nat.le_refl _, Nat.le_refl _⟩
    exact ⟨_, _, rfl, rfl, e4.1, e4.2.1, e4.2.2⟩
  · have c : ¬ f 22 3 + nI m ≤ nI 9999 := c
    rw [h6, nI_add, nI_leI (by omega) (by omega)] at c
    rw [if_pos (by omega)]
    exact And.intro ⟨rfl, rfl⟩ ⟨Or.inl rfl, Nat.le_refl _, Nat.le_refl _⟩
theorem c_month_22 {x : Int32} (hC : v_C f g 22 v) (hB : v_Bn N v) (hN : N + 998001 < 2 ^ 60) : x_Ct 125 (d + 4) [.ref 0, .int x] (f, g, x_HR 22 t, dm, n) (x_PC f g 22 (x_HR 22 t) dm n (sp_month v x)) := by
  unfold sp_month
  refine x_Ct_w (by decide) (Nat.le_of_ble_eq_true rfl) ok125 [] 6 ?_
  refine Exists.intro _ (And.intro (c_within (lo := 1) (hi := 99)) (And.intro (And.intro (Nat.zero_le _) (Nat.zero_le _)) (fun q h' hpo => ?_)))
  obtain ⟨rfl, rfl⟩ := hpo
  cases hz : x_wi x 1 99 with
  | false =>
    refine And.intro (fun c => absurd rfl c) (fun _ => ?_)
    refine Exists.intro _ (And.intro c_refuse (And.intro (And.intro (Nat.zero_le _) (Nat.zero_le _)) (fun q h' hpo => ?_)))
    obtain ⟨rfl, rfl⟩ := hpo
    refine And.intro ?_ ⟨trivial, Nat.le_refl _, Nat.le_refl _⟩
    exact x_PC_0 (by decide) hC
  | true =>
    refine And.intro (fun _ => ?_) (fun c => absurd c (by decide))
    obtain ⟨m, hm1, hm, rfl⟩ := x_wi_t (lo := 1) (hi := 99) hz (by decide) (by decide)
    rw [x_c, nI_clamp (by omega)]
    unfold s_mon
    refine Exists.intro _ (And.intro (c_passMonths_22 hC hB hN hm) (And.intro (And.intro (Nat.zero_le _) (Nat.zero_le _)) (fun q h' hpo => ?_)))
    by_cases hc : 9999 < v 6 0 0 + m
    · rw [if_pos hc] at hpo
      rw [if_pos hc]
      obtain ⟨rfl, rfl⟩ := hpo
      refine And.intro (fun c => absurd rfl c) (fun _ => ?_)
      refine Exists.intro _ (And.intro c_refuse (And.intro (And.intro (Nat.zero_le _) (Nat.zero_le _)) (fun q h' hpo => ?_)))
      obtain ⟨rfl, rfl⟩ := hpo
      refine And.intro ?_ ⟨trivial, Nat.le_refl _, Nat.le_refl _⟩
      exact x_PC_0 (by decide) hC
    · rw [if_neg hc] at hpo
      rw [if_neg hc]
      obtain ⟨F, G, rfl, rfl, hC', hg', hf'⟩ := hpo
      refine And.intro (fun _ => ?_) (fun c => absurd c (by decide))
      refine Exists.intro _ (And.intro c_answer (And.intro (And.intro (Nat.zero_le _) (Nat.zero_le _)) (fun q h' hpo => ?_)))
      obtain ⟨rfl, rfl⟩ := hpo
      refine And.intro ?_ ⟨trivial, Nat.le_refl _, Nat.le_refl _⟩
      rw [show (1 + v_out (d_mon1 v m) / v 3 0 0) = d_mon v m 7 0 0 from (v_set_s _ _ _ _ _).symm, ← hC'.1 7 0 0 ⟨rfl, rfl⟩]
      exact x_PC_F (by decide) hC' hg' hf'
theorem c_renewAll_22 {k : Nat} (hC : v_C f g 22 v) (hB : v_Bn N v) (hN : N + 2 ^ 33 < 2 ^ 60) (hk : k + 1 < v 0 0 0) : x_Ct 32 (d + 2) [.ref 22, .int (nI k)] (f, g, x_HR r t, dm, n) (fun q h' => ∃ F G, h' = (F, G, x_HR r t, dm, n) ∧ q = none ∧ x_LC f g 22 F G (d_renew v k (v 2 0 0))) := by
  have hB0 := v_Bn_B hB (by omega)
  have bP0 := v_B_P hB0
  have loop : ∀ m p F G l3 l4, p + m = v 2 0 0 → x_LC f g 22 F G (d_renew v k p) → x_J 32 (d + 2) (fun q h' => ∃ F G, h' = (F, G, x_HR r t, dm, n) ∧ q = none ∧ x_LC f g 22 F G (d_renew v k (v 2 0 0))) 2 [some (.ref 22), some (.int (nI k)), some (.int (nI p)), l3, l4] [] (F, G, x_HR r t, dm, n) 0 0 := by
    intro m
    induction m with
    | zero =>
      intro p F G l3 l4 hp hF
      have h2 : F 22 2 = nI (v 2 0 0) := (hF.1.1 2 0 0 ⟨rfl, rfl⟩).trans (congrArg nI (d_renew_c (by decide) (by decide) (by decide) (by decide) p))
      refine x_wp_ok ok32 [2] 3 ?_
      refine And.intro (fun c => ?_) (fun c => ?_)
      · rw [Nat.add_zero] at hp
        subst hp
        refine And.intro ?_ ⟨trivial, Nat.le_refl _, Nat.le_refl _⟩
        exact ⟨F, G, rfl, rfl, hF⟩
      · have c : ¬ F 22 2 ≤ nI p := c
        rw [h2] at c
        exact absurd (nI_le (by omega) (by omega)) c
    | succ m ih =>
      intro p F G l3 l4 hp hF
      have hBn := v_Bn_renew hB hk p (by omega)
      have hB := v_Bn_B hBn (by omega)
      have ew : ∀ c i j, c ≠ 13 → c ≠ 14 → c ≠ 16 → c ≠ 17 → d_renew v k p c i j = v c i j := fun c i j a b e e2 => d_renew_c a b e e2 p
      have h2' := ew 2 0 0 (by decide) (by decide) (by decide) (by decide)
      have h0' := ew 0 0 0 (by decide) (by decide) (by decide) (by decide)
      have hv : d_renew v k (p + 1) = d_ren1 (d_renew v k p) p k := rfl
      generalize hw : d_renew v k p = w at *
      have bK := v_B_K hB
      have bG := v_B_G hB
      have o13 : v_ok w 13 p k := show p < w 2 0 0 ∧ k < w 0 0 0 from ⟨by omega, by omega⟩
      have o14 : v_ok w 14 p k := show p < w 2 0 0 ∧ k < w 0 0 0 from ⟨by omega, by omega⟩
      have o13' : v_ok w 13 p (k + 1) := show p < w 2 0 0 ∧ k + 1 < w 0 0 0 from ⟨by omega, by omega⟩
      have o9 : v_ok w 9 k 0 := show k < w 0 0 0 ∧ 0 = 0 from ⟨by omega, rfl⟩
      have o9' : v_ok w 9 (k + 1) 0 := show k + 1 < w 0 0 0 ∧ 0 = 0 from ⟨by omega, rfl⟩
      have h2 : F 22 2 = nI (w 2 0 0) := hF.1.1 2 0 0 ⟨rfl, rfl⟩
      have h13 : F 29 (4 * p + k) = nI (w 13 p k) := hF.1.1 13 p k o13
      have h14 : F 30 (4 * p + k) = nI (w 14 p k) := hF.1.1 14 p k o14
      have h13' : F 29 (4 * p + (k + 1)) = nI (w 13 p (k + 1)) := hF.1.1 13 p (k + 1) o13'
      have h9 : F 25 k = nI (w 9 k 0) := hF.1.1 9 k 0 o9
      have h9' : F 25 (k + 1) = nI (w 9 (k + 1) 0) := hF.1.1 9 (k + 1) 0 o9'
      have b13 : w 13 p k ≤ 9999 := (hB.1 13 p k o13).2
      have b14 : w 14 p k ≤ 9999 := (hB.1 14 p k o14).2
      have b9 : w 9 k 0 ≤ 500 := (hB.1 9 k 0 o9).2
      have b9' : w 9 (k + 1) 0 ≤ 500 := (hB.1 9 (k + 1) 0 o9').2
      have br : d_ren w p k ≤ 9999 - w 13 p (k + 1) := Nat.min_le_right _ _
      refine x_wp_ok ok32 [2] 3 ?_
      refine And.intro (fun c => ?_) (fun c => ?_)
      · have c : F 22 2 ≤ nI p := c
        rw [h2] at c
        exact absurd c (nI_ge (by omega) (by omega))
      · refine Exists.intro _ (And.intro c_purse (And.intro (And.intro (Nat.zero_le _) (Nat.zero_le _)) (fun q h' hpo => ?_)))
        obtain ⟨rfl, rfl⟩ := hpo
        rw [x_pl4]
        refine Exists.intro _ (And.intro (c_renewedFor_22 hF.1 hB (by omega) (by omega)) (And.intro (And.intro (Nat.zero_le _) (Nat.zero_le _)) (fun q h' hpo => ?_)))
        obtain ⟨rfl, rfl⟩ := hpo
        refine And.intro (x_ix_nI (by omega) (by omega)) ?_
        rw [nI_clamp (by omega)]
        refine And.intro (x_ix_nI (by omega) (by omega)) ?_
        rw [nI_clamp (by omega)]
        refine And.intro (x_ix_nI (by omega) (by omega)) ?_
        rw [nI_clamp (by omega)]
        refine And.intro (by rw [nI_1o]; exact x_ix_nI (by omega) (by omega)) ?_
        refine And.intro (x_ix_nI (by omega) (by omega)) ?_
        rw [nI_clamp (by omega)]
        refine And.intro (x_ix_nI (by omega) (by omega)) ?_
        rw [nI_clamp (by omega)]
        refine Exists.intro _ (And.intro c_purse (And.intro (And.intro (Nat.zero_le _) (Nat.zero_le _)) (fun q h' hpo => ?_)))
        obtain ⟨rfl, rfl⟩ := hpo
        rw [nI_1o, x_pl4]
        refine And.intro (x_ix_nI (by omega) (by omega)) ?_
        rw [nI_clamp (by omega)]
        refine And.intro (x_ix_nI (by omega) (by omega)) ?_
        rw [nI_clamp (by omega)]
        have e := x_LC_set (x_LC_set (x_LC_set (x_LC_16 (x_LC_17 hF (w 17 0 0 + (w 13 p k + w 14 p k) * w 9 k 0)) (w 16 0 0 + d_ren w p k * w 9 (k + 1) 0)) bK bG (c := 13) (i := p) (j := k) (x := 0) o13 (by decide)) bK bG (c := 14) (i := p) (j := k) (x := 0) o14 (by decide)) bK bG (c := 13) (i := p) (j := k + 1) (x := w 13 p (k + 1) + d_ren w p k) o13' (by decide)
        have e5 := ih (p + 1) _ _ (some (.int (nI (4 * p + k)))) (some (.int (nI (d_ren w p k)))) (by omega) (by rw [hv]; exact e)
        have e13 : x_up F 29 (4 * p + k) (nI 0) 29 (4 * p + (k + 1)) = nI (w 13 p (k + 1)) := (x_up_j (by omega)).trans h13'
        rw [← lN_add, ← lN_mul, ← nI_l (show w 13 p k + w 14 p k < 2 ^ 31 by omega), ← nI_l (show w 9 k 0 < 2 ^ 31 by omega), ← nI_add (w 13 p k), ← h13, ← h14, ← h9, ← hF.1.2.2, ← lN_add, ← lN_mul, ← nI_l (show d_ren w p k < 2 ^ 31 by omega), ← nI_l (show w 9 (k + 1) 0 < 2 ^ 31 by omega), ← h9', ← hF.1.2.1, ← nI_add (w 13 p (k + 1)), ← e13, nI_succ] at e5
        exact e5
  exact x_Ct_w (by decide) (Nat.le_of_ble_eq_true rfl) ok32 [2] 3 (loop (v 2 0 0) 0 f g _ _ (Nat.zero_add _) (x_LC_0 hC))
theorem c_renew_22 {x : Int32} (hC : v_C f g 22 v) (hB : v_Bn N v) (hN : N + 2 ^ 33 < 2 ^ 60) : x_Ct 124 (d + 3) [.ref 0, .int x] (f, g, x_HR 22 t, dm, n) (x_PC f g 22 (x_HR 22 t) dm n (sp_renew v x)) := by
  have hBn := hB
  have hB := v_Bn_B hBn (by omega)
  have bK := v_B_K hB
  have bG := v_B_G hB
  have bP := v_B_P hB
  unfold sp_renew s_renew
  refine x_Ct_w (by decide) (Nat.le_of_ble_eq_true rfl) ok124 [] 6 ?_
  refine Exists.intro _ (And.intro (c_wrongRenewal_22 hC hB) (And.intro (And.intro (Nat.zero_le _) (Nat.zero_le _)) (fun q h' hpo => ?_)))
  obtain ⟨rfl, rfl⟩ := hpo
  cases hy : x_ixb x (v 0 0 0) with
  | false =>
    refine And.intro (fun c => absurd (show (1 : Int32) = 0 from c) (by decide)) (fun _ => ?_)
    refine Exists.intro _ (And.intro c_refuse (And.intro (And.intro (Nat.zero_le _) (Nat.zero_le _)) (fun q h' hpo => ?_)))
    obtain ⟨rfl, rfl⟩ := hpo
    refine And.intro ?_ ⟨trivial, Nat.le_refl _, Nat.le_refl _⟩
    exact x_PC_0 (by decide) hC
  | true =>
    rw [if_pos rfl]
    by_cases hk : x_c x + 1 < v 0 0 0
    · rw [if_pos hk, if_pos hk]
      refine And.intro (fun _ => ?_) (fun c => absurd rfl c)
      obtain ⟨k, hk', rfl⟩ := x_ixb_t hy (by omega)
      rw [x_c, nI_clamp (by omega)] at hk
      rw [x_c, nI_clamp (by omega)]
      refine Exists.intro _ (And.intro (c_outNow_22 hC hB) (And.intro (And.intro (Nat.zero_le _) (Nat.zero_le _)) (fun q h' hpo => ?_)))
      obtain ⟨rfl, rfl⟩ := hpo
      refine Exists.intro _ (And.intro (c_renewAll_22 hC hBn hN hk) (And.intro (And.intro (Nat.zero_le _) (Nat.zero_le _)) (fun q h' hpo => ?_)))
      obtain ⟨F, G, rfl, rfl, hF⟩ := hpo
      refine Exists.intro _ (And.intro (c_outNow_22 hF.1 (v_Bn_B (v_Bn_renew hBn hk _ (Nat.le_refl _)) (by omega))) (And.intro (And.intro (Nat.zero_le _) (Nat.zero_le _)) (fun q h' hpo => ?_)))
      obtain ⟨rfl, rfl⟩ := hpo
      refine Exists.intro _ (And.intro c_answer (And.intro (And.intro (Nat.zero_le _) (Nat.zero_le _)) (fun q h' hpo => ?_)))
      obtain ⟨rfl, rfl⟩ := hpo
      refine And.intro ?_ ⟨trivial, Nat.le_refl _, Nat.le_refl _⟩
      exact x_PC_L (by decide) hF
    · rw [if_neg hk, if_neg hk]
      refine And.intro (fun c => absurd (show (7 : Int32) = 0 from c) (by decide)) (fun _ => ?_)
      refine Exists.intro _ (And.intro c_refuse (And.intro (And.intro (Nat.zero_le _) (Nat.zero_le _)) (fun q h' hpo => ?_)))
      obtain ⟨rfl, rfl⟩ := hpo
      refine And.intro ?_ ⟨trivial, Nat.le_refl _, Nat.le_refl _⟩
      exact x_PC_0 (by decide) hC
end C27
