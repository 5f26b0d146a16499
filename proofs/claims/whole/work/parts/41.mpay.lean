/-! THE MODEL: paying -/
def x_PP (f : Nat → Nat → Int32) (g : Nat → Nat → Int64) (ρ : Nat → Nat → Option Nat) (dm : List Nat) (n : Nat) (w a : Nat → Nat) (K S : Nat) : Option Value → xH → Prop := fun q h' => ∃ F, h' = (F, g, ρ, dm, n) ∧ (∀ k, k ≠ 509 → k ≠ 510 → F k = f k) ∧ ((q = some (.int 1) ∧ S ≤ 999 ∧ y_few w a K 0 S < 1000000 ∧ ∀ k, k < K → F 510 k = nI (y_vec w a K 0 S k)) ∨ (q = some (.int 0) ∧ ¬ (S ≤ 999 ∧ y_few w a K 0 S < 1000000)))
theorem d_sub_set {v : xV} {p : Nat} {c : Nat → Nat} {K a i j x : Nat} (h : a ≠ 13) : d_sub (v_set v a i j x) p c K = v_set (d_sub v p c K) a i j x := by
  funext b e o
  rw [d_sub_at]
  by_cases h2 : b = 13 ∧ e = p ∧ o < K
  · rw [if_pos h2, v_set_c (fun q => h q.symm), v_set_c (by omega), d_sub_at, if_pos h2]
  · rw [if_neg h2]
    unfold v_set
    by_cases h3 : b = a ∧ e = i ∧ o = j
    · rw [if_pos h3, if_pos h3]
    · rw [if_neg h3, if_neg h3, d_sub_at, if_neg h2]
theorem d_add_set {v : xV} {p : Nat} {c : Nat → Nat} {K a i j x : Nat} (h : a ≠ 13) : d_add (v_set v a i j x) p c K = v_set (d_add v p c K) a i j x := by
  funext b e o
  rw [d_add_at]
  by_cases h2 : b = 13 ∧ e = p ∧ o < K
  · rw [if_pos h2, v_set_c (fun q => h q.symm), v_set_c (by omega), d_add_at, if_pos h2]
  · rw [if_neg h2]
    unfold v_set
    by_cases h3 : b = a ∧ e = i ∧ o = j
    · rw [if_pos h3, if_pos h3]
    · rw [if_neg h3, if_neg h3, d_add_at, if_neg h2]
section C41
variable {f : Nat → Nat → Int32} {g : Nat → Nat → Int64} {r t : Nat} {ρ : Nat → Nat → Option Nat} {dm : List Nat} {n d N : Nat} {v : xV} {h : xH}
theorem m_laysPaying {P : Int32} {a : Nat → Nat} {S : Nat} (hM : v_M (f 501) 0 v) (hB : v_B v) (hP : x_who v P a) (hS : S < 2 ^ 62) : x_Ct 248 (d + 3) [.ref 500, .int P, .long (lN S)] (f, g, x_HR r t, dm, n) (x_PP f g (x_HR r t) dm n (v_w v) a (v 0 0 0) S) := by
  have bK := v_B_K hB
  have bG := v_B_G hB
  have bP := v_B_P hB
  have o0 : v_ok v 0 0 0 := ⟨rfl, rfl⟩
  have h0 : f 501 0 = nI (v 0 0 0) := v_M_at hM o0
  have b0 : v 0 0 0 ≤ 4 := (hB.1 0 0 0 o0).2
  obtain ⟨K, hK⟩ : ∃ K, K = v 0 0 0 := ⟨_, rfl⟩
  rw [← hK]
  rw [← hK] at h0
  refine x_Ct_w (by decide) (Nat.le_of_ble_eq_true rfl) ok248 [39, 91] 8 ?_
  refine And.intro (fun c => ?_) (fun c => ?_)
  · have c : lg_cmp (lN S) (lN 999) ≤ 0 := c
    rw [← Int32.not_lt, x_lg_gt, pk_lLT (by decide) (by omega)] at c
    have lf := m_laysFew (d := d) (g := g) (r := r) (t := t) (dm := dm) (n := n) (most := S) hM hB hP (by omega)
    rw [← hK, ← lN_i S] at lf
    refine Exists.intro _ (And.intro lf (And.intro (And.intro (Nat.zero_le _) (Nat.zero_le _)) (fun q h' hpo => ?_)))
    obtain ⟨rfl, F, rfl, q1, q2⟩ := hpo
    have hF1 : v_M (F 501) 0 v := by rw [q1 501 (by decide)]; exact hM
    have hF0 : F 501 0 = nI K := by rw [q1 501 (by decide)]; exact h0
    have hfw : ∀ k s, k ≤ K → s ≤ S → F 509 (1000 * k + s) = nI (y_few (v_w v) a (K - k) k s) := fun k s hk hs => q2 k (Nat.zero_le _) hk s hs
    have hfe := y_few_le (v_w v) a K 0 S
    have e00 : F 509 S = nI (y_few (v_w v) a K 0 S) := by
      have := hfw 0 S (by omega) (Nat.le_refl _)
      rwa [Nat.mul_zero, Nat.zero_add] at this
    refine And.intro (by show x_ix (lN S).toInt32 5000; rw [lN_i]; exact x_ix_nI (by omega) (by omega)) ?_
    rw [lN_i, nI_clamp (by omega)]
    refine And.intro (fun c2 => ?_) (fun c2 => ?_)
    · have c2 : F 509 S < nI 1000000 := c2
      rw [e00, nI_ltI (by omega) (by omega)] at c2
      have loop : ∀ m k left F' l6 l7, k + m = K → left ≤ S → y_few (v_w v) a (K - k) k left < 1000000 → (∀ i, k ≤ i → y_vec (v_w v) a K 0 S i = y_vec (v_w v) a (K - k) k left i) → (∀ j, j ≠ 510 → F' j = F j) → (∀ i, i < k → F' 510 i = nI (y_vec (v_w v) a K 0 S i)) → x_J 248 (d + 3) (x_PP f g (x_HR r t) dm n (v_w v) a K S) 39 [some (.ref 500), some (.int P), some (.long (lN S)), none, some (.int (nI left)), some (.int (nI k)), l6, l7] [] (F', g, x_HR r t, dm, n) 0 0 := by
        intro m
        induction m with
        | zero =>
          intro k left F' l6 l7 hk hl hfl hv hf1 hf2
          obtain rfl : k = K := by omega
          refine x_wp_ok ok248 [39, 91] 8 ?_
          refine And.intro (x_ix_nI (j := 0) (by decide) (by decide)) ?_
          refine And.intro (fun c => ?_) (fun c => ?_)
          · exact And.intro ⟨F', rfl, fun j h1 h2 => (hf1 j h2).trans (q1 j h1), Or.inl ⟨rfl, by omega, c2, hf2⟩⟩ ⟨Or.inr rfl, Nat.le_refl _, Nat.le_refl _⟩
          · have c : ¬ F' 501 0 ≤ nI k := c
            rw [hf1 501 (by decide), hF0, nI_leI (by omega) (by omega)] at c
            omega
        | succ m ih =>
          intro k left F' l6 l7 hk hl hfl hv hf1 hf2
          have hak := x_who_le hB hP (show k < v 0 0 0 by omega)
          have o9w : v_ok v 9 k 0 := show k < v 0 0 0 ∧ 0 = 0 from ⟨by omega, rfl⟩
          have h9w : f 501 (12 + k) = nI (v 9 k 0) := v_M_at hM o9w
          have b9w : v 9 k 0 ≤ 500 := (hB.1 9 k 0 o9w).2
          have l9w : 1 ≤ v 9 k 0 := (hB.1 9 k 0 o9w).1
          have hwk : v_w v k = v 9 k 0 := rfl
          have hw9 : F' 501 (12 + k) = nI (v 9 k 0) := by rw [hf1 501 (by decide), q1 501 (by decide)]; exact h9w
          obtain ⟨M, hMK⟩ : ∃ M, K - k = M + 1 := ⟨K - k - 1, by omega⟩
          have hMK' : K - (k + 1) = M := by omega
          rw [hMK] at hfl hv
          obtain ⟨pk1, pk2⟩ := y_pick_ok hfl
          obtain ⟨pk, hpk⟩ : ∃ pk, pk = y_pick (v_w v) a M k left := ⟨_, rfl⟩
          rw [← hpk] at pk1 pk2
          have hpkw : pk * v 9 k 0 ≤ left := (Nat.le_div_iff_mul_le l9w).mp (Nat.le_trans pk2 (Nat.min_le_right _ _))
          have hrow : ∀ s, s ≤ S → F' 509 (1000 * k + s) = nI (y_few (v_w v) a (M + 1) k s) := fun s hs => by rw [hf1 509 (by decide), hfw k s (by omega) hs, hMK]
          have hrow2 : ∀ s, s ≤ S → F' 509 (1000 * (k + 1) + s) = nI (y_few (v_w v) a M (k + 1) s) := fun s hs => by rw [hf1 509 (by decide), hfw (k + 1) s (by omega) hs, hMK']
          have tail : x_J 248 (d + 3) (x_PP f g (x_HR r t) dm n (v_w v) a K S) 143 [some (.ref 500), some (.int P), some (.long (lN S)), none, some (.int (nI left)), some (.int (nI k)), some (.int (nI (a k))), some (.int (nI pk))] [] (F', g, x_HR r t, dm, n) 0 0 := by
            refine x_wp_ok ok248 [39, 91] 8 ?_
            refine And.intro (x_ix_nI (by omega) (by omega)) ?_
            rw [nI_clamp (by omega)]
            refine Exists.intro _ (And.intro (m_worthV (w := v 9 k 0) (by omega) ((congrFun (x_up_k (by decide)) _).trans hw9)) (And.intro (And.intro (Nat.zero_le _) (Nat.zero_le _)) (fun q h' hpo => ?_)))
            obtain ⟨rfl, rfl⟩ := hpo
            have hvk : y_vec (v_w v) a K 0 S k = pk := by
              rw [hv k (Nat.le_refl _), hpk]
              exact if_pos rfl
            have hfl2 : y_few (v_w v) a M (k + 1) (left - pk * v 9 k 0) < 1000000 := Nat.lt_of_le_of_lt (Nat.le_add_left _ pk) (by rw [show pk + y_few (v_w v) a M (k + 1) (left - pk * v 9 k 0) = y_few (v_w v) a (M + 1) k left from pk1]; exact hfl)
            have e := ih (k + 1) (left - pk * v 9 k 0) (x_up F' 510 k (nI pk)) (some (.int (nI (a k)))) (some (.int (nI pk))) (by omega) (by omega) (by rw [hMK']; exact hfl2) (fun i hi => by
              rw [hv i (by omega), hMK', hpk]
              exact if_neg (by omega)) (fun j hj => by rw [x_up_k hj]; exact hf1 j hj) (fun i hi => by
              by_cases e : i = k
              · subst e
                rw [x_up_s, hvk]
              · rw [x_up_j e]
                exact hf2 i (by omega))
            rw [nI_succ k, ← pk_sub hpkw, ← pk_mul] at e
            exact e
          have down : ∀ c, c ≤ min (a k) (left / v 9 k 0) → pk = y_top (fun c => c + y_few (v_w v) a M (k + 1) (left - c * v_w v k) == y_few (v_w v) a (M + 1) k left) c → pk ≤ c → x_J 248 (d + 3) (x_PP f g (x_HR r t) dm n (v_w v) a K S) 91 [some (.ref 500), some (.int P), some (.long (lN S)), none, some (.int (nI left)), some (.int (nI k)), some (.int (nI (a k))), some (.int (nI c))] [] (F', g, x_HR r t, dm, n) 0 0 := by
            intro c
            induction c with
            | zero =>
              intro hc hpt hpc
              obtain rfl : pk = 0 := by omega
              have ei : nI 1000 * (nI k + 1) + nI left - nI 0 * nI (v 9 k 0) = nI (1000 * (k + 1) + left) := by
                rw [nI_1, pk_mul, pk_mul, nI_add, pk_sub (by omega)]
                congr 1
                omega
              have ei2 : nI 1000 * nI k + nI left = nI (1000 * k + left) := by rw [pk_mul, nI_add]
              have pk1' : y_few (v_w v) a M (k + 1) left = y_few (v_w v) a (M + 1) k left := by
                rw [Nat.zero_mul, Nat.zero_add, Nat.sub_zero] at pk1
                exact pk1
              refine x_wp_ok ok248 [39, 91, 143] 8 ?_
              refine Exists.intro _ (And.intro (m_worthV (w := v 9 k 0) (by omega) hw9) (And.intro (And.intro (Nat.zero_le _) (Nat.zero_le _)) (fun q h' hpo => ?_)))
              obtain ⟨rfl, rfl⟩ := hpo
              refine And.intro (by show x_ix (nI 1000 * (nI k + 1) + nI left - nI 0 * nI (v 9 k 0)) 5000; rw [ei]; exact x_ix_nI (by omega) (by omega)) ?_
              refine And.intro (by show x_ix (nI 1000 * nI k + nI left) 5000; rw [ei2]; exact x_ix_nI (by omega) (by omega)) ?_
              refine And.intro (fun c3 => ?_) (fun c3 => ?_)
              · exact tail
              · have c3 : ¬ nI 0 + F' 509 (nI 1000 * (nI k + 1) + nI left - nI 0 * nI (v 9 k 0)).toNatClampNeg = F' 509 (nI 1000 * nI k + nI left).toNatClampNeg := c3
                rw [ei, ei2, nI_clamp (by omega), nI_clamp (by omega), hrow left hl, hrow2 left hl, pk1', nI_add, Nat.zero_add] at c3
                exact absurd rfl c3
            | succ c ih3 =>
              intro hc hpt hpc
              have hcl : c + 1 ≤ left / v 9 k 0 := Nat.le_trans hc (Nat.min_le_right _ _)
              have hca : c + 1 ≤ a k := Nat.le_trans hc (Nat.min_le_left _ _)
              have hcw : (c + 1) * v 9 k 0 ≤ left := (Nat.le_div_iff_mul_le l9w).mp hcl
              have ei : nI 1000 * (nI k + 1) + nI left - nI (c + 1) * nI (v 9 k 0) = nI (1000 * (k + 1) + (left - (c + 1) * v 9 k 0)) := by
                rw [nI_1, pk_mul, pk_mul, nI_add, pk_sub (by omega)]
                congr 1
                omega
              have ei2 : nI 1000 * nI k + nI left = nI (1000 * k + left) := by rw [pk_mul, nI_add]
              have f1 := y_few_le (v_w v) a M (k + 1) (left - (c + 1) * v 9 k 0)
              have f2 := y_few_le (v_w v) a (M + 1) k left
              refine x_wp_ok ok248 [39, 91, 143] 8 ?_
              refine Exists.intro _ (And.intro (m_worthV (w := v 9 k 0) (by omega) hw9) (And.intro (And.intro (Nat.zero_le _) (Nat.zero_le _)) (fun q h' hpo => ?_)))
              obtain ⟨rfl, rfl⟩ := hpo
              refine And.intro (by show x_ix (nI 1000 * (nI k + 1) + nI left - nI (c + 1) * nI (v 9 k 0)) 5000; rw [ei]; exact x_ix_nI (by omega) (by omega)) ?_
              refine And.intro (by show x_ix (nI 1000 * nI k + nI left) 5000; rw [ei2]; exact x_ix_nI (by omega) (by omega)) ?_
              have hpt : pk = if (c + 1 + y_few (v_w v) a M (k + 1) (left - (c + 1) * v_w v k) == y_few (v_w v) a (M + 1) k left) = true then c + 1 else y_top (fun c => c + y_few (v_w v) a M (k + 1) (left - c * v_w v k) == y_few (v_w v) a (M + 1) k left) c := hpt
              rw [hwk] at hpt
              refine And.intro (fun c3 => ?_) (fun c3 => ?_)
              · have c3 : nI (c + 1) + F' 509 (nI 1000 * (nI k + 1) + nI left - nI (c + 1) * nI (v 9 k 0)).toNatClampNeg = F' 509 (nI 1000 * nI k + nI left).toNatClampNeg := c3
                rw [ei, ei2, nI_clamp (by omega), nI_clamp (by omega), hrow left hl, hrow2 _ (by omega), nI_add, nI_eq (by omega) (by omega)] at c3
                rw [if_pos (beq_iff_eq.mpr c3)] at hpt
                rw [hpt] at tail
                exact tail
              · have c3 : ¬ nI (c + 1) + F' 509 (nI 1000 * (nI k + 1) + nI left - nI (c + 1) * nI (v 9 k 0)).toNatClampNeg = F' 509 (nI 1000 * nI k + nI left).toNatClampNeg := c3
                rw [ei, ei2, nI_clamp (by omega), nI_clamp (by omega), hrow left hl, hrow2 _ (by omega), nI_add, nI_eq (by omega) (by omega)] at c3
                rw [if_neg (fun q => c3 (beq_iff_eq.mp q))] at hpt
                have e := ih3 (by omega) hpt (by rw [hpt]; exact y_top_le _ _)
                rw [← pk_m1 c] at e
                exact e
          refine x_wp_ok ok248 [39, 91] 8 ?_
          refine And.intro (x_ix_nI (j := 0) (by decide) (by decide)) ?_
          refine And.intro (fun c => ?_) (fun c => ?_)
          · have c : F' 501 0 ≤ nI k := c
            rw [hf1 501 (by decide), hF0, nI_leI (by omega) (by omega)] at c
            omega
          · have hdl : left / v 9 k 0 ≤ left := Nat.div_le_self _ _
            have hgo : ∀ x6, x6 = nI (a k) → x_J 248 (d + 3) (x_PP f g (x_HR r t) dm n (v_w v) a K S) 91 [some (.ref 500), some (.int P), some (.long (lN S)), none, some (.int (nI left)), some (.int (nI k)), some (.int x6), some (.int (if nI left / nI (v 9 k 0) < x6 then nI left / nI (v 9 k 0) else x6))] [] (F', g, x_HR r t, dm, n) 0 0 := by
              intro x6 h6
              rw [h6, pk_div (by omega) (by omega) (by omega), x_min_nI (by omega) (by omega)]
              exact down _ (Nat.le_refl _) hpk pk2
            have hne : ¬ nI (v 9 k 0) = 0 := x_ne0 (by omega) l9w
            rcases hP with ⟨rfl, rfl⟩ | ⟨p, rfl, hp, rfl⟩
            · refine And.intro (fun c => absurd rfl c) (fun _ => ?_)
              refine Exists.intro _ (And.intro (m_worthV (w := v 9 k 0) (by omega) hw9) (And.intro (And.intro (Nat.zero_le _) (Nat.zero_le _)) (fun q h' hpo => ?_)))
              obtain ⟨rfl, rfl⟩ := hpo
              refine And.intro hne ?_
              exact hgo _ rfl
            · refine And.intro (fun _ => ?_) (fun c => absurd c (x_nIm (by omega)))
              refine Exists.intro _ (And.intro m_wholeAt (And.intro (And.intro (Nat.zero_le _) (Nat.zero_le _)) (fun q h' hpo => ?_)))
              obtain ⟨rfl, rfl⟩ := hpo
              refine And.intro (x_ix_nI (by omega) (by omega)) ?_
              rw [nI_clamp (by omega)]
              refine Exists.intro _ (And.intro (m_worthV (w := v 9 k 0) (by omega) hw9) (And.intro (And.intro (Nat.zero_le _) (Nat.zero_le _)) (fun q h' hpo => ?_)))
              obtain ⟨rfl, rfl⟩ := hpo
              refine And.intro hne ?_
              refine hgo _ ?_
              show F' 501 (27 + 14 * p + k) = _
              rw [hf1 501 (by decide)]
              exact v_M_at hF1 (c := 13) (i := p) (j := k) (show p < v 2 0 0 ∧ k < v 0 0 0 from ⟨hp, by omega⟩)
      have e := loop K 0 S F none none (Nat.zero_add _) (Nat.le_refl _) c2 (fun i _ => rfl) (fun _ _ => rfl) (fun i hi => by omega)
      exact e
    · have c2 : ¬ F 509 S < nI 1000000 := c2
      rw [e00, nI_ltI (by omega) (by omega)] at c2
      exact And.intro ⟨F, rfl, fun k h1 _ => q1 k h1, Or.inr ⟨rfl, fun q => c2 q.2⟩⟩ ⟨Or.inl rfl, Nat.le_refl _, Nat.le_refl _⟩
  · have c : ¬ lg_cmp (lN S) (lN 999) ≤ 0 := c
    rw [← Int32.not_lt, x_lg_gt, pk_lLT (by decide) (by omega)] at c
    exact And.intro ⟨f, rfl, fun _ _ _ => rfl, Or.inr ⟨rfl, fun q => by omega⟩⟩ ⟨Or.inl rfl, Nat.le_refl _, Nat.le_refl _⟩
theorem m_payingAll {K : Nat} {c : Nat → Nat} (hK : f 501 0 = nI K) (hK4 : K ≤ 4) (hc : ∀ k, k < K → f 510 k = nI (c k)) : x_V 249 d [.ref 500] (f, g, x_HR r t, dm, n) (.int (nI (y_S c K 0))) (f, g, x_HR r t, dm, n) := by
  have loop : ∀ m k, k + m = K → x_J 249 d (fun q h' => q = some (.int (nI (y_S c K 0))) ∧ h' = (f, g, x_HR r t, dm, n)) 4 [some (.ref 500), some (.int (nI (y_S c k 0))), some (.int (nI k))] [] (f, g, x_HR r t, dm, n) 0 0 := by
    intro m
    induction m with
    | zero =>
      intro k hk
      obtain rfl : k = K := by omega
      refine x_wp_ok ok249 [4] 4 ?_
      refine And.intro (x_ix_nI (j := 0) (by decide) (by decide)) ?_
      refine And.intro (fun cc => ?_) (fun cc => ?_)
      · exact And.intro ⟨rfl, rfl⟩ ⟨trivial, Nat.le_refl _, Nat.le_refl _⟩
      · have cc : ¬ f 501 0 ≤ nI k := cc
        rw [hK, nI_leI (by omega) (by omega)] at cc
        omega
    | succ m ih =>
      intro k hk
      refine x_wp_ok ok249 [4] 4 ?_
      refine And.intro (x_ix_nI (j := 0) (by decide) (by decide)) ?_
      refine And.intro (fun cc => ?_) (fun cc => ?_)
      · have cc : f 501 0 ≤ nI k := cc
        rw [hK, nI_leI (by omega) (by omega)] at cc
        omega
      · refine And.intro (x_ix_nI (by omega) (by omega)) ?_
        rw [nI_clamp (by omega)]
        have e := ih (k + 1) (by omega)
        rw [y_S_last, Nat.zero_add, ← nI_add, ← hc k (by omega), nI_succ k] at e
        exact e
  exact x_Ct_w (by decide) (Nat.le_of_ble_eq_true rfl) ok249 [4] 4 (loop K 0 (Nat.zero_add _))
end C41
