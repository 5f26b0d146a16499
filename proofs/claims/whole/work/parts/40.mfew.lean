/-! THE MODEL: the fewest sheets -/
/-- the rows of 'few' from row k0 on -/
def x_fw (F : Nat → Nat → Int32) (w a : Nat → Nat) (K k0 most : Nat) : Prop := ∀ k, k0 ≤ k → k ≤ K → ∀ s, s ≤ most → F 509 (1000 * k + s) = nI (y_few w a (K - k) k s)
/-- whose sheets: a PERSON's, or any number -/
def x_who (v : xV) (P : Int32) (a : Nat → Nat) : Prop := (P = -1 ∧ a = fun _ => 999) ∨ ∃ p, P = nI p ∧ p < v 2 0 0 ∧ a = v 13 p
def x_PF (f : Nat → Nat → Int32) (g : Nat → Nat → Int64) (ρ : Nat → Nat → Option Nat) (dm : List Nat) (n : Nat) (w a : Nat → Nat) (K most : Nat) : Option Value → xH → Prop := fun q h' => q = none ∧ ∃ F, h' = (F, g, ρ, dm, n) ∧ (∀ k, k ≠ 509 → F k = f k) ∧ x_fw F w a K 0 most
theorem y_few_S {w a : Nat → Nat} {K k s : Nat} (hk : k < K) : y_few w a (K - k) k s = y_low (fun c => c + y_few w a (K - (k + 1)) (k + 1) (s - c * w k)) (min (a k) (s / w k) + 1) := by
  rw [show K - k = K - (k + 1) + 1 by omega]
  rfl
section C40
variable {f : Nat → Nat → Int32} {g : Nat → Nat → Int64} {r t : Nat} {ρ : Nat → Nat → Option Nat} {dm : List Nat} {n d N : Nat} {v : xV} {h : xH}
theorem x_who_le {P : Int32} {a : Nat → Nat} (hB : v_B v) (hP : x_who v P a) {k : Nat} (hk : k < v 0 0 0) : a k ≤ 9999 := by
  rcases hP with ⟨_, rfl⟩ | ⟨p, _, hp, rfl⟩
  · exact (show 999 ≤ 9999 by decide)
  · exact (hB.1 13 p k (show p < v 2 0 0 ∧ k < v 0 0 0 from ⟨hp, hk⟩)).2
theorem m_laysFew {P : Int32} {a : Nat → Nat} {most : Nat} (hM : v_M (f 501) 0 v) (hB : v_B v) (hP : x_who v P a) (hs : most ≤ 999) : x_Ct 247 (d + 2) [.ref 500, .int P, .int (nI most)] (f, g, x_HR r t, dm, n) (x_PF f g (x_HR r t) dm n (v_w v) a (v 0 0 0) most) := by
  have bK := v_B_K hB
  have bG := v_B_G hB
  have bP := v_B_P hB
  have o0 : v_ok v 0 0 0 := ⟨rfl, rfl⟩
  have h0 : f 501 0 = nI (v 0 0 0) := v_M_at hM o0
  have b0 : v 0 0 0 ≤ 4 := (hB.1 0 0 0 o0).2
  obtain ⟨K, hK⟩ : ∃ K, K = v 0 0 0 := ⟨_, rfl⟩
  have rows : ∀ m F l5 l6 l7 l8 l9, m ≤ K → (∀ k, k ≠ 509 → F k = f k) → x_fw F (v_w v) a K m most → x_J 247 (d + 2) (x_PF f g (x_HR r t) dm n (v_w v) a K most) 57 [some (.ref 500), some (.int P), some (.int (nI most)), some (.int (nI (1000 * K))), some (.int (nI m - 1)), l5, l6, l7, l8, l9] [] (F, g, x_HR r t, dm, n) 0 0 := by
    intro m
    induction m with
    | zero =>
      intro F l5 l6 l7 l8 l9 hm h1 h2
      refine x_wp_ok ok247 [14, 57, 98, 112] 8 ?_
      refine And.intro (fun c => ?_) (fun c => ?_)
      · exact And.intro ⟨rfl, F, rfl, h1, h2⟩ ⟨trivial, Nat.le_refl _, Nat.le_refl _⟩
      · exact absurd (show nI 0 - 1 < 0 by decide) c
    | succ k ih =>
      intro F l5 l6 l7 l8 l9 hm h1 h2
      rw [nI_pred]
      have hak := x_who_le hB hP (show k < v 0 0 0 by omega)
      have o9w : v_ok v 9 k 0 := show k < v 0 0 0 ∧ 0 = 0 from ⟨by omega, rfl⟩
      have h9w : f 501 (12 + k) = nI (v 9 k 0) := v_M_at hM o9w
      have b9w : v 9 k 0 ≤ 500 := (hB.1 9 k 0 o9w).2
      have l9w : 1 ≤ v 9 k 0 := (hB.1 9 k 0 o9w).1
      have hwk : v_w v k = v 9 k 0 := rfl
      have sums : ∀ m2 s F l8 l9, s + m2 = most + 1 → (∀ k, k ≠ 509 → F k = f k) → x_fw F (v_w v) a K (k + 1) most → (∀ j, j < s → F 509 (1000 * k + j) = nI (y_few (v_w v) a (K - k) k j)) → x_J 247 (d + 2) (x_PF f g (x_HR r t) dm n (v_w v) a K most) 98 [some (.ref 500), some (.int P), some (.int (nI most)), some (.int (nI (1000 * K))), some (.int (nI k)), some (.int (nI (a k))), some (.int (nI (v 9 k 0))), some (.int (nI s)), l8, l9] [] (F, g, x_HR r t, dm, n) 0 0 := by
        intro m2
        induction m2 with
        | zero =>
          intro s F l8 l9 hs2 q1 q2 q3
          refine x_wp_ok ok247 [14, 57, 98, 112] 8 ?_
          refine And.intro (fun c => ?_) (fun c => ?_)
          · have e := ih F (some (.int (nI (a k)))) (some (.int (nI (v 9 k 0)))) (some (.int (nI s))) l8 l9 (by omega) q1 (fun j hj1 hj2 s' hs' => by
              by_cases e : j = k
              · subst e
                exact q3 s' (by omega)
              · exact q2 j (by omega) hj2 s' hs')
            rw [Int32.sub_eq_add_neg] at e
            exact e
          · have c : ¬ nI most < nI s := c
            rw [nI_ltI (by omega) (by omega)] at c
            omega
        | succ m2 ih2 =>
          intro s F l8 l9 hs2 q1 q2 q3
          obtain ⟨T, hT⟩ : ∃ T, T = min (a k) (s / v 9 k 0) := ⟨_, rfl⟩
          have hTa : T ≤ a k := by rw [hT]; exact Nat.min_le_left _ _
          have hTs : T ≤ s / v 9 k 0 := by rw [hT]; exact Nat.min_le_right _ _
          have hTw : T * v 9 k 0 ≤ s := (Nat.le_div_iff_mul_le l9w).mp hTs
          have hds : s / v 9 k 0 ≤ s := Nat.div_le_self _ _
          have eF := y_few_S (w := v_w v) (a := a) (K := K) (k := k) (s := s) (by omega)
          rw [hwk, ← hT] at eF
          obtain ⟨H, hH⟩ : ∃ H : Nat → Nat, H = fun c => c + y_few (v_w v) a (K - (k + 1)) (k + 1) (s - c * v 9 k 0) := ⟨_, rfl⟩
          rw [← hH] at eF
          have fin : ∀ c9, x_J 247 (d + 2) (x_PF f g (x_HR r t) dm n (v_w v) a K most) 98 [some (.ref 500), some (.int P), some (.int (nI most)), some (.int (nI (1000 * K))), some (.int (nI k)), some (.int (nI (a k))), some (.int (nI (v 9 k 0))), some (.int (nI s + 1)), some (.int (nI (y_low H (T + 1)))), c9] [] (x_up F 509 (1000 * k + s) (nI (y_low H (T + 1))), g, x_HR r t, dm, n) 0 0 := by
            intro c9
            have e := ih2 (s + 1) (x_up F 509 (1000 * k + s) (nI (y_low H (T + 1)))) (some (.int (nI (y_low H (T + 1))))) c9 (by omega) (fun j hj => by rw [x_up_k hj]; exact q1 j hj) (fun j hj1 hj2 s' hs' => by rw [x_up_j (by omega)]; exact q2 j hj1 hj2 s' hs') (fun j hj => by
              by_cases e : j = s
              · subst e
                rw [x_up_s, eF]
              · rw [x_up_j (by omega)]
                exact q3 j (by omega))
            rw [nI_succ s] at e
            exact e
          have eix : nI 1000 * nI k + nI s = nI (1000 * k + s) := by rw [pk_mul, nI_add]
          have try1 : ∀ m3 c, c + m3 = T + 1 → x_J 247 (d + 2) (x_PF f g (x_HR r t) dm n (v_w v) a K most) 112 [some (.ref 500), some (.int P), some (.int (nI most)), some (.int (nI (1000 * K))), some (.int (nI k)), some (.int (nI (a k))), some (.int (nI (v 9 k 0))), some (.int (nI s)), some (.int (nI (y_low H c))), some (.int (nI c))] [] (F, g, x_HR r t, dm, n) 0 0 := by
            intro m3
            induction m3 with
            | zero =>
              intro c hc
              obtain rfl : c = T + 1 := by omega
              have hcw : (T + 1) * v 9 k 0 ≤ 10000 * 500 := Nat.mul_le_mul (by omega) b9w
              have out : x_J 247 (d + 2) (x_PF f g (x_HR r t) dm n (v_w v) a K most) 167 [some (.ref 500), some (.int P), some (.int (nI most)), some (.int (nI (1000 * K))), some (.int (nI k)), some (.int (nI (a k))), some (.int (nI (v 9 k 0))), some (.int (nI s)), some (.int (nI (y_low H (T + 1)))), some (.int (nI (T + 1)))] [] (F, g, x_HR r t, dm, n) 0 0 := by
                refine x_wp_ok ok247 [14, 57, 98, 112] 8 ?_
                refine And.intro (by show x_ix (nI 1000 * nI k + nI s) 5000; rw [eix]; exact x_ix_nI (by omega) (by omega)) ?_
                have e := fin (some (.int (nI (T + 1))))
                rw [← nI_clamp (show 1000 * k + s < 2 ^ 31 by omega), ← eix] at e
                exact e
              refine x_wp_ok ok247 [14, 57, 98, 112, 167] 8 ?_
              refine And.intro (fun c1 => ?_) (fun c1 => ?_)
              · exact out
              · have c1 : ¬ nI (a k) < nI (T + 1) := c1
                rw [nI_ltI (by omega) (by omega)] at c1
                refine And.intro (fun c2 => ?_) (fun c2 => ?_)
                · exact out
                · have c2 : ¬ nI s < nI (T + 1) * nI (v 9 k 0) := c2
                  rw [pk_mul, nI_ltI (by omega) (by omega)] at c2
                  have h5 : T + 1 ≤ s / v 9 k 0 := (Nat.le_div_iff_mul_le l9w).mpr (by omega)
                  have h6 : T + 1 ≤ min (a k) (s / v 9 k 0) := Nat.le_min.mpr ⟨by omega, h5⟩
                  omega
            | succ m3 ih3 =>
              intro c hc
              have hcT : c ≤ T := by omega
              have hcw : c * v 9 k 0 ≤ T * v 9 k 0 := Nat.mul_le_mul_right _ hcT
              have hll := y_low_le H c
              have hfe := y_few_le (v_w v) a (K - (k + 1)) (k + 1) (s - c * v 9 k 0)
              have hHc : H c = c + y_few (v_w v) a (K - (k + 1)) (k + 1) (s - c * v 9 k 0) := by rw [hH]
              refine x_wp_ok ok247 [14, 57, 98, 112] 8 ?_
              refine And.intro (fun c1 => ?_) (fun c1 => ?_)
              · have c1 : nI (a k) < nI c := c1
                rw [nI_ltI (by omega) (by omega)] at c1
                omega
              · refine And.intro (fun c2 => ?_) (fun c2 => ?_)
                · have c2 : nI s < nI c * nI (v 9 k 0) := c2
                  rw [pk_mul, nI_ltI (by omega) (by omega)] at c2
                  omega
                · have ei : nI 1000 * (nI k + 1) + nI s - nI c * nI (v 9 k 0) = nI (1000 * (k + 1) + (s - c * v 9 k 0)) := by
                    rw [nI_1, pk_mul, pk_mul, nI_add, pk_sub (by omega)]
                    congr 1
                    omega
                  refine And.intro (by show x_ix (nI 1000 * (nI k + 1) + nI s - nI c * nI (v 9 k 0)) 5000; rw [ei]; exact x_ix_nI (by omega) (by omega)) ?_
                  have e := ih3 (c + 1) (by omega)
                  rw [show y_low H (c + 1) = min (y_low H c) (H c) from rfl, hHc, ← x_min_nI (by omega) (by omega), ← nI_add c (y_few (v_w v) a (K - (k + 1)) (k + 1) (s - c * v 9 k 0)), ← q2 (k + 1) (Nat.le_refl _) (by omega) (s - c * v 9 k 0) (by omega), nI_succ c, ← nI_clamp (show 1000 * (k + 1) + (s - c * v 9 k 0) < 2 ^ 31 by omega), ← ei] at e
                  exact e
          refine x_wp_ok ok247 [14, 57, 98, 112] 8 ?_
          refine And.intro (fun c => ?_) (fun c => ?_)
          · have c : nI most < nI s := c
            rw [nI_ltI (by omega) (by omega)] at c
            omega
          · exact try1 (T + 1) 0 (Nat.zero_add _)
      have hF1 : v_M (F 501) 0 v := by rw [h1 501 (by decide)]; exact hM
      refine x_wp_ok ok247 [14, 57, 98, 112] 8 ?_
      refine And.intro (fun c => ?_) (fun c => ?_)
      · have c : nI k < nI 0 := c
        rw [nI_ltI (by omega) (by omega)] at c
        omega
      · have hgo : ∀ x5, x5 = nI (a k) → x_J 247 (d + 2) (x_PF f g (x_HR r t) dm n (v_w v) a K most) 98 [some (.ref 500), some (.int P), some (.int (nI most)), some (.int (nI (1000 * K))), some (.int (nI k)), some (.int x5), some (.int (nI (v 9 k 0))), some (.int (nI 0)), l8, l9] [] (F, g, x_HR r t, dm, n) 0 0 := by
          intro x5 h5
          rw [h5]
          exact sums (most + 1) 0 F l8 l9 (Nat.zero_add _) h1 h2 (fun j hj => by omega)
        rcases hP with ⟨rfl, rfl⟩ | ⟨p, rfl, hp, rfl⟩
        · refine And.intro (fun c => absurd rfl c) (fun _ => ?_)
          refine Exists.intro _ (And.intro (m_worthV (w := v 9 k 0) (by omega) (by rw [h1 501 (by decide)]; exact h9w)) (And.intro (And.intro (Nat.zero_le _) (Nat.zero_le _)) (fun q h' hpo => ?_)))
          obtain ⟨rfl, rfl⟩ := hpo
          exact hgo _ rfl
        · refine And.intro (fun _ => ?_) (fun c => absurd c (x_nIm (by omega)))
          refine Exists.intro _ (And.intro m_wholeAt (And.intro (And.intro (Nat.zero_le _) (Nat.zero_le _)) (fun q h' hpo => ?_)))
          obtain ⟨rfl, rfl⟩ := hpo
          refine And.intro (x_ix_nI (by omega) (by omega)) ?_
          rw [nI_clamp (by omega)]
          refine Exists.intro _ (And.intro (m_worthV (w := v 9 k 0) (by omega) (by rw [h1 501 (by decide)]; exact h9w)) (And.intro (And.intro (Nat.zero_le _) (Nat.zero_le _)) (fun q h' hpo => ?_)))
          obtain ⟨rfl, rfl⟩ := hpo
          exact hgo _ (v_M_at hF1 (c := 13) (i := p) (j := k) (show p < v 2 0 0 ∧ k < v 0 0 0 from ⟨hp, by omega⟩))
  rw [← hK]
  rw [← hK] at h0
  have base : ∀ m s F, s + m = most + 1 → (∀ k, k ≠ 509 → F k = f k) → (∀ j, j < s → F 509 (1000 * K + j) = nI (y_few (v_w v) a 0 K j)) → x_J 247 (d + 2) (x_PF f g (x_HR r t) dm n (v_w v) a K most) 14 [some (.ref 500), some (.int P), some (.int (nI most)), some (.int (nI (1000 * K))), some (.int (nI s)), none, none, none, none, none] [] (F, g, x_HR r t, dm, n) 0 0 := by
    intro m
    induction m with
    | zero =>
      intro s F hs2 q1 q2
      refine x_wp_ok ok247 [14, 57, 98, 112] 8 ?_
      refine And.intro (fun c => ?_) (fun c => ?_)
      · refine And.intro (x_ix_nI (j := 0) (by decide) (by decide)) ?_
        have e := rows K F none none none none none (Nat.le_refl _) q1 (fun k hk1 hk2 s' hs' => by
          obtain rfl : k = K := by omega
          rw [Nat.sub_self]
          exact q2 s' (by omega))
        rw [← h0, ← q1 501 (by decide)] at e
        exact e
      · have c : ¬ nI most < nI s := c
        rw [nI_ltI (by omega) (by omega)] at c
        omega
    | succ m ih =>
      intro s F hs2 q1 q2
      have eix : nI (1000 * K) + nI s = nI (1000 * K + s) := nI_add _ _
      refine x_wp_ok ok247 [14, 57, 98, 112] 8 ?_
      refine And.intro (fun c => ?_) (fun c => ?_)
      · have c : nI most < nI s := c
        rw [nI_ltI (by omega) (by omega)] at c
        omega
      · have e := ih (s + 1) (x_up F 509 (1000 * K + s) (nI (y_few (v_w v) a 0 K s))) (by omega) (fun j hj => by rw [x_up_k hj]; exact q1 j hj) (fun j hj => by
          by_cases e : j = s
          · subst e
            rw [x_up_s]
          · rw [x_up_j (by omega)]
            exact q2 j (by omega))
        rw [nI_succ s, show y_few (v_w v) a 0 K s = if s = 0 then 0 else 1000000 from rfl] at e
        refine And.intro (fun c2 => ?_) (fun c2 => ?_)
        · have c2 : ¬ nI s = nI 0 := c2
          rw [nI_eq (by omega) (by decide)] at c2
          rw [if_neg c2, ← nI_clamp (show 1000 * K + s < 2 ^ 31 by omega), ← eix] at e
          refine And.intro (by show x_ix (nI (1000 * K) + nI s) 5000; rw [eix]; exact x_ix_nI (by omega) (by omega)) ?_
          exact e
        · have c2 : nI s = nI 0 := c2
          rw [nI_eq (by omega) (by decide)] at c2
          rw [if_pos c2, ← nI_clamp (show 1000 * K + s < 2 ^ 31 by omega), ← eix] at e
          refine And.intro (by show x_ix (nI (1000 * K) + nI s) 5000; rw [eix]; exact x_ix_nI (by omega) (by omega)) ?_
          exact e
  refine x_Ct_w (by decide) (Nat.le_of_ble_eq_true rfl) ok247 [14, 57, 98, 112] 8 ?_
  refine And.intro (x_ix_nI (j := 0) (by decide) (by decide)) ?_
  have e := base (most + 1) 0 f (Nat.zero_add _) (fun _ _ => rfl) (fun j hj => by omega)
  rw [← pk_mul, ← h0] at e
  exact e
end C40
