/-! THE TELLER: from a purse -/
def x_fp (g : Nat → Nat → Int64) (f : Nat → Nat → Int32) (ρ : Nat → Nat → Option Nat) (dm : List Nat) (n : Nat) (w a : Nat → Nat) (K s : Nat) : Option Value → xH → Prop := fun q h' => q = none ∧ ∃ G T, h' = (f, G, ρ, dm, n) ∧ x_tb g G T s ∧ (∀ j, T j ≤ 2 ^ 60) ∧ ∀ j, j ≤ s → y_T w a K j (T j)
theorem y_T_av {w a : Nat → Nat} {k s M j x : Nat} (hM : M = min (a k) (s / w k)) (hw : 1 ≤ w k) (hj : j ≤ s) (h : y_T w (y_av a k M) (k + 1) j x) : y_T w a (k + 1) j x := by
  refine y_T_cg (fun i hi q hq => ?_) h
  unfold y_av
  by_cases e : i = k
  · subst e
    rw [if_pos rfl, hM]
    have h1 : q ≤ s / w i := (Nat.le_div_iff_mul_le hw).mpr (by omega)
    have h2 : q ≤ min (a i) (s / w i) ↔ q ≤ a i ∧ q ≤ s / w i := Nat.le_min
    rw [h2]
    exact ⟨fun z => z.1, fun z => ⟨z, h1⟩⟩
  · rw [if_neg e]
section C35
variable {f : Nat → Nat → Int32} {g : Nat → Nat → Int64} {r t : Nat} {ρ : Nat → Nat → Option Nat} {dm : List Nat} {n d N : Nat} {v : xV} {h : xH}
theorem c_fill_12 {p s K : Nat} (hC : v_C f g 12 v) (hB : v_B v) (hp : p < v 2 0 0) (hs : s ≤ 999) (hK : K ≤ v 0 0 0) : x_Ct 73 (d + 1) [.ref 99, .ref 12, .int (nI p), .int (nI s), .int (nI K)] (f, g, x_HR r t, dm, n) (x_fp g f (x_HR r t) dm n (v_w v) (v 13 p) K s) := by
  have bK := v_B_K hB
  have bG := v_B_G hB
  have bP := v_B_P hB
  have loop : ∀ m k G T R l7 l8 l9 l10, k + m = K → x_tb g G T s → (∀ j, T j ≤ 2 ^ 60) → (∀ j, j ≤ s → y_T (v_w v) (v 13 p) k j (T j)) → R ≤ s → (∀ j, j ≤ s → R < j → T j = 2 ^ 60) → x_J 73 (d + 1) (x_fp g f (x_HR r t) dm n (v_w v) (v 13 p) K s) 11 [some (.ref 99), some (.ref 12), some (.int (nI p)), some (.int (nI s)), some (.int (nI K)), some (.int (nI R)), some (.int (nI k)), l7, l8, l9, l10] [] (f, G, x_HR r t, dm, n) 0 0 := by
    intro m
    induction m with
    | zero =>
      intro k G T R l7 l8 l9 l10 hk h2 h3 h4 h5 h6
      obtain rfl : k = K := by omega
      refine x_wp_ok ok73 [11, 82] 4 ?_
      refine And.intro (fun c => ?_) (fun c => ?_)
      · exact And.intro ⟨rfl, G, T, rfl, h2, h3, h4⟩ ⟨trivial, Nat.le_refl _, Nat.le_refl _⟩
      · have c : ¬ nI k ≤ nI k := c
        rw [nI_leI (by omega) (by omega)] at c
        omega
    | succ m ih =>
      intro k G T R l7 l8 l9 l10 hk h2 h3 h4 h5 h6
      have o9w : v_ok v 9 k 0 := show k < v 0 0 0 ∧ 0 = 0 from ⟨by omega, rfl⟩
      have h9w : f 15 k = nI (v 9 k 0) := hC.1 9 k 0 o9w
      have b9w : v 9 k 0 ≤ 500 := (hB.1 9 k 0 o9w).2
      have l9w : 1 ≤ v 9 k 0 := (hB.1 9 k 0 o9w).1
      have o13 : v_ok v 13 p k := show p < v 2 0 0 ∧ k < v 0 0 0 from ⟨by omega, by omega⟩
      have h13 : f 19 (4 * p + k) = nI (v 13 p k) := hC.1 13 p k o13
      have b13 : v 13 p k ≤ 9999 := (hB.1 13 p k o13).2
      have hc := y_co_lt k
      have hw : (if (1 : Int32) < f 15 k then f 15 k else 1) = nI (v 9 k 0) := by rw [h9w, x_max1_nI (by omega) l9w]
      obtain ⟨M, hM⟩ : ∃ M, M = min (v 13 p k) (s / v 9 k 0) := ⟨_, rfl⟩
      have hM1 : M ≤ s / v 9 k 0 := by rw [hM]; exact Nat.min_le_right _ _
      have hM2 : M * v 9 k 0 ≤ s := (Nat.le_div_iff_mul_le l9w).mp hM1
      have hd : s / v 9 k 0 ≤ s := Nat.div_le_self _ _
      have hm : (if nI s / nI (v 9 k 0) < f 19 (4 * p + k) then nI s / nI (v 9 k 0) else f 19 (4 * p + k)) = nI M := by
        rw [h13, pk_div (by omega) (by omega) (by omega), x_min_nI (by omega) (by omega), hM]
      have inner : ∀ m' b q B G U R l10, 1000 ≤ B * 2 ^ m' → B ≤ 1998 → 1 ≤ B → b + q = M → (q = 0 ∨ b + 1 = B) → x_tb g G U s → (∀ j, U j ≤ 2 ^ 60) → (∀ j, j ≤ s → y_X (v 9 k 0) (y_co k) b T j (U j)) → R ≤ s → (∀ j, j ≤ s → R < j → U j = 2 ^ 60) → x_J 73 (d + 1) (x_fp g f (x_HR r t) dm n (v_w v) (v 13 p) K s) 82 [some (.ref 99), some (.ref 12), some (.int (nI p)), some (.int (nI s)), some (.int (nI K)), some (.int (nI R)), some (.int (nI k)), some (.int (nI (v 9 k 0))), some (.int (nI q)), some (.int (nI B)), l10] [] (f, G, x_HR r t, dm, n) 0 0 := by
        have done : ∀ q B G U R l10, x_tb g G U s → (∀ j, U j ≤ 2 ^ 60) → (∀ j, j ≤ s → y_X (v 9 k 0) (y_co k) M T j (U j)) → R ≤ s → (∀ j, j ≤ s → R < j → U j = 2 ^ 60) → x_J 73 (d + 1) (x_fp g f (x_HR r t) dm n (v_w v) (v 13 p) K s) 11 [some (.ref 99), some (.ref 12), some (.int (nI p)), some (.int (nI s)), some (.int (nI K)), some (.int (nI R)), some (.int (nI k + 1)), some (.int (nI (v 9 k 0))), q, B, l10] [] (f, G, x_HR r t, dm, n) 0 0 := by
          intro q B G U R l10 u1 u2 u3 u4 u5
          have e := ih (k + 1) G U R (some (.int (nI (v 9 k 0)))) q B l10 (by omega) u1 u2 (fun j hj => y_T_av (w := v_w v) (s := s) hM l9w hj (y_T_X (w := v_w v) (a := v 13 p) (m := k) (b := M) (fun i hi => v_w_1 hB i (by omega)) (by omega) (by omega) (fun s' hs' => h4 s' (by omega)) (u3 j hj))) u4 u5
          rw [nI_succ k] at e
          exact e
        intro m'
        induction m' with
        | zero =>
          intro b q B G U R l10 hB2 hB3 hB1 hq hq2 u1 u2 u3 u4 u5
          obtain rfl : q = 0 := by omega
          obtain rfl : b = M := by omega
          refine x_wp_ok ok73 [11, 82] 4 ?_
          refine And.intro (fun c => ?_) (fun c => ?_)
          · exact done _ _ G U R l10 u1 u2 u3 u4 u5
          · have c : ¬ nI 999 < nI B := c
            rw [nI_ltI (by omega) (by omega)] at c
            omega
        | succ m' ih' =>
          intro b q B G U R l10 hB2 hB3 hB1 hq hq2 u1 u2 u3 u4 u5
          refine x_wp_ok ok73 [11, 82] 4 ?_
          refine And.intro (fun c => ?_) (fun c => ?_)
          · have c : nI 999 < nI B := c
            rw [nI_ltI (by omega) (by omega)] at c
            obtain rfl : q = 0 := by omega
            obtain rfl : b = M := by omega
            exact done _ _ G U R l10 u1 u2 u3 u4 u5
          · have c : ¬ nI 999 < nI B := c
            rw [nI_ltI (by omega) (by omega)] at c
            refine And.intro (fun c2 => ?_) (fun c2 => ?_)
            · have c2 : nI q ≤ nI 0 := c2
              rw [nI_leI (by omega) (by omega)] at c2
              obtain rfl : q = 0 := by omega
              obtain rfl : b = M := by omega
              exact done _ _ G U R l10 u1 u2 u3 u4 u5
            · have c2 : ¬ nI q ≤ nI 0 := c2
              rw [nI_leI (by omega) (by omega)] at c2
              obtain ⟨z, hz⟩ : ∃ z, z = min B q := ⟨_, rfl⟩
              have hz1 : z ≤ B := by rw [hz]; exact Nat.min_le_left _ _
              have hz2 : z ≤ q := by rw [hz]; exact Nat.min_le_right _ _
              have hz3 : 1 ≤ z := by rw [hz]; exact Nat.le_min.mpr ⟨hB1, by omega⟩
              have hzw : z * v 9 k 0 ≤ M * v 9 k 0 := Nat.mul_le_mul_right _ (by omega)
              have hzw1 : 1 * 1 ≤ z * v 9 k 0 := Nat.mul_le_mul hz3 l9w
              have hzc : z * y_co k ≤ 999 * (2 ^ 40 + 1) := Nat.mul_le_mul (by omega) (by omega)
              have ez : (if nI q < nI B then nI q else nI B) = nI z := by rw [x_min_nI (by omega) (by omega), hz]
              have er : (if nI R + nI z * nI (v 9 k 0) < nI s then nI R + nI z * nI (v 9 k 0) else nI s) = nI (min s (R + z * v 9 k 0)) := by
                rw [pk_mul, nI_add, x_min_nI (by omega) (by omega)]
              have hr : min s (R + z * v 9 k 0) ≤ s := Nat.min_le_left _ _
              have ab := c_addBundle (d := d) (f := f) (r := r) (t := t) (dm := dm) (n := n) (W := z * v 9 k 0) (C := z * y_co k) (R := min s (R + z * v 9 k 0)) hzw1 (by omega) (by omega) hr hs u1.2 u2
              rw [← lN_mul, ← nI_l (show z < 2 ^ 31 by omega), ← er, ← pk_mul, ← ez] at ab
              refine Exists.intro _ (And.intro (c_costOf (show k < 4 by omega)) (And.intro (And.intro (Nat.zero_le _) (Nat.zero_le _)) (fun q h' hpo => ?_)))
              obtain ⟨rfl, rfl⟩ := hpo
              refine Exists.intro _ (And.intro ab (And.intro (And.intro (Nat.zero_le _) (Nat.zero_le _)) (fun q h' hpo => ?_)))
              obtain ⟨rfl, G', rfl, g1, g2⟩ := hpo
              have e := ih' (b + z) (q - z) (B * 2) G' _ (min s (R + z * v 9 k 0)) (some (.int (nI z))) (by rw [Nat.mul_assoc, ← Nat.pow_succ']; exact hB2) (by omega) (by omega) (by omega) (by
                  by_cases hqB : q ≤ B
                  · rw [Nat.min_eq_right hqB] at hz; omega
                  · rw [Nat.min_eq_left (by omega)] at hz; omega) ⟨fun k hk => (g1 k hk).trans (u1.1 k hk), g2⟩ (fun j => by
                  show (if _ then _ else _) ≤ _
                  split
                  · exact Nat.le_trans (Nat.min_le_left _ _) (u2 j)
                  · exact u2 j) (fun j hj => by
                  have x1 := y_X_b (w := v 9 k 0) (co := y_co k) (b := b) (z := z) (T := T) (U := U) (s := j) (by omega) (fun s' hs' => u3 s' (by omega))
                  have x2 : (if z * v 9 k 0 ≤ j ∧ j ≤ min s (R + z * v 9 k 0) then min (U j) (U (j - z * v 9 k 0) + z * y_co k) else U j) = (if z * v 9 k 0 ≤ j then min (U j) (U (j - z * v 9 k 0) + z * y_co k) else U j) := by
                    by_cases hc1 : z * v 9 k 0 ≤ j
                    · rw [if_pos hc1]
                      by_cases hc2 : j ≤ min s (R + z * v 9 k 0)
                      · rw [if_pos ⟨hc1, hc2⟩]
                      · rw [if_neg (fun q => hc2 q.2)]
                        have hc3 : R + z * v 9 k 0 < j := by
                          by_cases h9 : s ≤ R + z * v 9 k 0
                          · rw [Nat.min_eq_left h9] at hc2; omega
                          · rw [Nat.min_eq_right (by omega)] at hc2; omega
                        rw [u5 j hj (by omega), u5 (j - z * v 9 k 0) (by omega) (by omega), Nat.min_eq_left (by omega)]
                    · rw [if_neg hc1, if_neg (fun q => hc1 q.1)]
                  show y_X _ _ _ _ _ (if z * v 9 k 0 ≤ j ∧ j ≤ min s (R + z * v 9 k 0) then min (U j) (U (j - z * v 9 k 0) + z * y_co k) else U j)
                  rw [x2]
                  exact x1) hr (fun j hj hj2 => by
                  show (if _ then _ else _) = _
                  rw [if_neg (by omega)]
                  refine u5 j hj ?_
                  by_cases h9 : s ≤ R + z * v 9 k 0
                  · rw [Nat.min_eq_left h9] at hj2; omega
                  · rw [Nat.min_eq_right (by omega)] at hj2; omega)
              rw [← pk_sub hz2, ← er, ← pk_mul B, ← ez] at e
              exact e
      have start : ∀ G U R b q l10, b + q = M → (q = 0 ∨ b + 1 = 1) → x_tb g G U s → (∀ j, U j ≤ 2 ^ 60) → (∀ j, j ≤ s → y_X (v 9 k 0) (y_co k) b T j (U j)) → R ≤ s → (∀ j, j ≤ s → R < j → U j = 2 ^ 60) → x_J 73 (d + 1) (x_fp g f (x_HR r t) dm n (v_w v) (v 13 p) K s) 82 [some (.ref 99), some (.ref 12), some (.int (nI p)), some (.int (nI s)), some (.int (nI K)), some (.int (nI R)), some (.int (nI k)), some (.int (nI (v 9 k 0))), some (.int (nI q)), some (.int (nI 1)), l10] [] (f, G, x_HR r t, dm, n) 0 0 := fun G U R b q l10 a1 a2 a3 a4 a5 a6 a7 => inner 10 b q 1 G U R l10 (by decide) (by decide) (by decide) a1 a2 a3 a4 a5 a6 a7
      refine x_wp_ok ok73 [11, 82] 6 ?_
      refine And.intro (fun c => ?_) (fun c => ?_)
      · have c : nI K ≤ nI k := c
        rw [nI_leI (by omega) (by omega)] at c
        omega
      · refine And.intro (x_ix_nI (by omega) (by omega)) ?_
        rw [nI_clamp (by omega)]
        refine Exists.intro _ (And.intro c_purse (And.intro (And.intro (Nat.zero_le _) (Nat.zero_le _)) (fun q h' hpo => ?_)))
        obtain ⟨rfl, rfl⟩ := hpo
        rw [x_pl4]
        refine And.intro (x_ix_nI (by omega) (by omega)) ?_
        rw [nI_clamp (by omega)]
        refine And.intro (by show ¬ (if (1 : Int32) < f 15 k then f 15 k else 1) = 0; rw [hw]; exact x_ne0 (by omega) l9w) ?_
        refine And.intro (fun cR => ?_) (fun cR => ?_)
        · have cR : ¬ nI R = nI 0 := cR
          rw [nI_eq (by omega) (by decide)] at cR
          have e := start G T R 0 M l10 (by omega) (Or.inr rfl) h2 h3 (fun j hj => y_X_0 (h3 j)) h5 h6
          rw [← hm, ← hw] at e
          exact e
        · have cR : nI R = nI 0 := cR
          rw [nI_eq (by omega) (by decide)] at cR
          subst cR
          have la := c_layAlone (d := d) (f := f) (r := r) (t := t) (dm := dm) (n := n) (W := v 9 k 0) (C := y_co k) (b := M) l9w hM2 hs h2.2
          rw [← hm, ← hw] at la
          refine Exists.intro _ (And.intro (c_costOf (show k < 4 by omega)) (And.intro (And.intro (Nat.zero_le _) (Nat.zero_le _)) (fun q h' hpo => ?_)))
          obtain ⟨rfl, rfl⟩ := hpo
          refine Exists.intro _ (And.intro la (And.intro (And.intro (Nat.zero_le _) (Nat.zero_le _)) (fun q h' hpo => ?_)))
          obtain ⟨rfl, G', rfl, g1, g2⟩ := hpo
          have hT0 : T 0 = 0 := y_T_z (h4 0 (Nat.zero_le _))
          have e := start G' _ (M * v 9 k 0) M 0 l10 rfl (Or.inl rfl) ⟨fun k hk => (g1 k hk).trans (h2.1 k hk), g2⟩ (fun j => by
              show (if _ then _ else _) ≤ _
              split
              · rename_i hc2
                have h9 : j / v 9 k 0 * y_co k ≤ 999 * (2 ^ 40 + 1) := Nat.mul_le_mul (by omega) (by omega)
                exact Nat.le_trans h9 (by decide)
              · exact h3 j) (fun j hj => by
              refine y_X_a (V := fun j => if 1 ≤ j ∧ j % v 9 k 0 = 0 ∧ j / v 9 k 0 ≤ M then j / v 9 k 0 * y_co k else T j) l9w hT0 (fun s' hs' h0 => h6 s' (by omega) (by omega)) (fun i hi hi2 => ?_) (fun i hi hi2 => ?_) (fun hn => ?_)
              · have h9 : i * y_co k ≤ 999 * (2 ^ 40 + 1) := Nat.mul_le_mul (by omega) (by omega)
                omega
              · subst hi2
                show (if _ then _ else _) = _
                by_cases hi0 : i = 0
                · subst hi0
                  rw [Nat.zero_mul, Nat.zero_mul, if_neg (by omega)]
                  exact hT0
                · have h9 : 1 * 1 ≤ i * v 9 k 0 := Nat.mul_le_mul (by omega) l9w
                  rw [Nat.mul_div_cancel i l9w, Nat.mul_mod_left, if_pos ⟨h9, rfl, hi⟩]
              · show (if _ then _ else _) = _
                rw [if_neg (fun hc3 => hn (j / v 9 k 0) hc3.2.2 (Nat.div_mul_cancel (Nat.dvd_of_mod_eq_zero hc3.2.1)))]
                have h9 := hn 0 (Nat.zero_le _)
                exact h6 j hj (by omega)) hM2 (fun j hj hj2 => by
              show (if _ then _ else _) = _
              rw [if_neg (fun hc3 => ?_)]
              · exact h6 j hj (by omega)
              · have h9 := Nat.div_mul_cancel (Nat.dvd_of_mod_eq_zero hc3.2.1)
                have h10 : j / v 9 k 0 * v 9 k 0 ≤ M * v 9 k 0 := Nat.mul_le_mul_right _ hc3.2.2
                omega)
          rw [← pk_mul, ← hm, ← hw] at e
          exact e
  refine x_Ct_w (by decide) (Nat.le_of_ble_eq_true rfl) ok73 [11, 82] 4 ?_
  refine Exists.intro _ (And.intro (c_beginWays hs) (And.intro (And.intro (Nat.zero_le _) (Nat.zero_le _)) (fun q h' hpo => ?_)))
  obtain ⟨rfl, G, rfl, hG⟩ := hpo
  exact loop K 0 G y_T0 0 none none none none (Nat.zero_add _) hG (fun j => by unfold y_T0; split <;> omega) (fun j hj => y_T_0 _ _ j) (Nat.zero_le _) (fun j hj hj2 => by unfold y_T0; rw [if_neg (by omega)])
theorem c_wayFromPurse_12 {p s : Nat} (hC : v_C f g 12 v) (hB : v_B v) (hp : p < v 2 0 0) (hs : s ≤ 999) : x_Ct 72 (d + 2) [.ref 99, .ref 12, .int (nI p), .int (nI s)] (f, g, x_HR r t, dm, n) (fun q h' => q = some (.long (lN (y_way (v_w v) (v 13 p) (v 0 0 0) s))) ∧ ∃ G, h' = (f, G, x_HR r t, dm, n) ∧ ∀ k, k ≠ 100 → G k = g k) := by
  have bK := v_B_K hB
  have bG := v_B_G hB
  have bP := v_B_P hB
  have o0 : v_ok v 0 0 0 := ⟨rfl, rfl⟩
  have h0 : f 12 0 = nI (v 0 0 0) := hC.1 0 0 0 o0
  have b0 : v 0 0 0 ≤ 4 := (hB.1 0 0 0 o0).2
  have hws := v_ws_le4 hB (c := 13) (Or.inl rfl) hp
  have cw := c_worthOf_12_19 (f := f) (g := g) (r := r) (t := t) (dm := dm) (n := n) (d := d) (p := p) h0 bK (by omega)
  rw [show x_wsum (f 19) (f 15) (4 * p) (v 0 0 0) = nI (v_ws v 13 p (v 0 0 0)) from v_C_ws hC (Or.inl rfl) hp _ (Nat.le_refl _)] at cw
  refine x_Ct_w (by decide) (Nat.le_of_ble_eq_true rfl) ok72 [89] 6 ?_
  refine Exists.intro _ (And.intro cw (And.intro (And.intro (Nat.zero_le _) (Nat.zero_le _)) (fun q h' hpo => ?_)))
  obtain ⟨rfl, rfl⟩ := hpo
  refine And.intro (fun c => ?_) (fun c => ?_)
  · have c : nI s ≤ nI (v_ws v 13 p (v 0 0 0)) := c
    rw [nI_leI (by omega) (by omega)] at c
    by_cases hK0 : v 0 0 0 = 0
    · have hs0 : s = 0 := by
        rw [hK0] at c
        exact Nat.le_zero.mp c
      refine And.intro (fun c2 => ?_) (fun c2 => ?_)
      · have c2 : nI 0 ≤ f 12 0 - nI 1 := c2
        rw [h0, hK0] at c2
        exact absurd c2 (by decide)
      · refine And.intro ⟨?_, g, rfl, fun _ _ => rfl⟩ ⟨trivial, Nat.le_refl _, Nat.le_refl _⟩
        rw [hs0, hK0]
        exact congrArg (fun z => some (Value.long z)) (show (0 : Int64) = lN (y_way (v_w v) (v 13 p) 0 0) from rfl)
    · obtain ⟨q, hq⟩ : ∃ q, v 0 0 0 = q + 1 := ⟨v 0 0 0 - 1, by omega⟩
      have el : f 12 0 - 1 = nI q := by rw [h0, hq, nI_pred]
      have o9w : v_ok v 9 q 0 := show q < v 0 0 0 ∧ 0 = 0 from ⟨by omega, rfl⟩
      have h9w : f 15 q = nI (v 9 q 0) := hC.1 9 q 0 o9w
      have b9w : v 9 q 0 ≤ 500 := (hB.1 9 q 0 o9w).2
      have l9w : 1 ≤ v 9 q 0 := (hB.1 9 q 0 o9w).1
      have o13 : v_ok v 13 p q := show p < v 2 0 0 ∧ q < v 0 0 0 from ⟨by omega, by omega⟩
      have h13 : f 19 (4 * p + q) = nI (v 13 p q) := hC.1 13 p q o13
      have b13 : v 13 p q ≤ 9999 := (hB.1 13 p q o13).2
      have hc := y_co_lt q
      have hw : (if (1 : Int32) < f 15 q then f 15 q else 1) = nI (v 9 q 0) := by rw [h9w, x_max1_nI (by omega) l9w]
      obtain ⟨M, hM⟩ : ∃ M, M = min (v 13 p q) (s / v 9 q 0) := ⟨_, rfl⟩
      have hM1 : M ≤ s / v 9 q 0 := by rw [hM]; exact Nat.min_le_right _ _
      have hM2 : M * v 9 q 0 ≤ s := (Nat.le_div_iff_mul_le l9w).mp hM1
      have hd : s / v 9 q 0 ≤ s := Nat.div_le_self _ _
      have hm : (if nI s / nI (v 9 q 0) < f 19 (4 * p + q) then nI s / nI (v 9 q 0) else f 19 (4 * p + q)) = nI M := by
        rw [h13, pk_div (by omega) (by omega) (by omega), x_min_nI (by omega) (by omega), hM]
      refine And.intro (fun c2 => ?_) (fun c2 => ?_)
      · have cf := c_fill_12 (r := r) (t := t) (dm := dm) (n := n) (d := d) (K := q) hC hB hp hs (by omega)
        rw [← el] at cf
        refine Exists.intro _ (And.intro cf (And.intro (And.intro (Nat.zero_le _) (Nat.zero_le _)) (fun q h' hpo => ?_)))
        obtain ⟨rfl, G, T, rfl, t1, t2, t3⟩ := hpo
        refine And.intro (by show x_ix (f 12 0 - 1) 4; rw [el]; exact x_ix_nI (by omega) (by omega)) ?_
        have cp := c_purse (d := d + 1) (h := (f, G, x_HR r t, dm, n)) (x := nI p) (y := nI q)
        rw [← el] at cp
        refine Exists.intro _ (And.intro cp (And.intro (And.intro (Nat.zero_le _) (Nat.zero_le _)) (fun q h' hpo => ?_)))
        obtain ⟨rfl, rfl⟩ := hpo
        refine And.intro (by show x_ix (nI p * 4 + (f 12 0 - 1)) 20; rw [el, x_pl4]; exact x_ix_nI (by omega) (by omega)) ?_
        refine And.intro (by show ¬ (if (1 : Int32) < f 15 (f 12 0 - 1).toNatClampNeg then f 15 (f 12 0 - 1).toNatClampNeg else 1) = 0; rw [el, nI_clamp (by omega), hw]; exact x_ne0 (by omega) l9w) ?_
        have cc := c_costOf (d := d + 1) (h := (f, G, x_HR r t, dm, n)) (show q < 4 by omega)
        rw [← el] at cc
        refine Exists.intro _ (And.intro cc (And.intro (And.intro (Nat.zero_le _) (Nat.zero_le _)) (fun q h' hpo => ?_)))
        obtain ⟨rfl, rfl⟩ := hpo
        have lp : ∀ m i x, i + m = M + 1 → x ≤ 2 ^ 60 → (∀ j, j < i → x ≤ T (s - j * v 9 q 0) + j * y_co q) → (x = 2 ^ 60 ∨ ∃ j, j < i ∧ x = T (s - j * v 9 q 0) + j * y_co q) → x_J 72 (d + 2) (fun q h' => q = some (.long (lN (y_way (v_w v) (v 13 p) (v 0 0 0) s))) ∧ ∃ G, h' = (f, G, x_HR r t, dm, n) ∧ ∀ k, k ≠ 100 → G k = g k) 89 [some (.ref 99), some (.ref 12), some (.int (nI p)), some (.int (nI s)), some (.int (nI q)), some (.int (nI (v 9 q 0))), some (.int (nI M)), some (.long (lN (y_co q))), none, some (.long (lN x)), none, some (.int (nI i))] [] (f, G, x_HR r t, dm, n) 0 0 := by
          intro m
          induction m with
          | zero =>
            intro i x hi x1 x2 x3
            refine x_wp_ok ok72 [89] 4 ?_
            refine And.intro (fun c => ?_) (fun c => ?_)
            · refine And.intro ⟨?_, G, rfl, t1.1⟩ ⟨trivial, Nat.le_refl _, Nat.le_refl _⟩
              have eX : y_X (v_w v q) (y_co q) M T s x := ⟨x1, fun j h1 h2 => x2 j (by omega), x3.imp id (fun ⟨j, h1, h2⟩ => ⟨j, by omega, Nat.le_trans (Nat.mul_le_mul_right _ (by omega)) hM2, h2⟩)⟩
              have eT := y_T_av (w := v_w v) (a := v 13 p) (s := s) hM l9w (Nat.le_refl _) (y_T_X (w := v_w v) (a := v 13 p) (m := q) (b := M) (fun i hi => v_w_1 hB i (by omega)) (by omega) hs t3 eX)
              rw [← hq] at eT
              rw [← y_T_way (v_w_1 hB) bK hs eT]
            · have c : ¬ nI M < nI i := c
              rw [nI_ltI (by omega) (by omega)] at c
              omega
          | succ m ih =>
            intro i x hi x1 x2 x3
            have hiw : i * v 9 q 0 ≤ M * v 9 q 0 := Nat.mul_le_mul_right _ (by omega)
            have hic : i * y_co q ≤ 999 * (2 ^ 40 + 1) := Nat.mul_le_mul (by omega) (by omega)
            have hT := t2 (s - i * v 9 q 0)
            have eix : nI s - nI i * nI (v 9 q 0) = nI (s - i * v 9 q 0) := by rw [pk_mul, pk_sub (by omega)]
            refine x_wp_ok ok72 [89] 4 ?_
            refine And.intro (fun c => ?_) (fun c => ?_)
            · have c : nI M < nI i := c
              rw [nI_ltI (by omega) (by omega)] at c
              omega
            · refine And.intro (by show x_ix (nI s - nI i * nI (v 9 q 0)) 1000; rw [eix]; exact x_ix_nI (by omega) (by omega)) ?_
              have e := ih (i + 1) (min x (T (s - i * v 9 q 0) + i * y_co q)) (by omega) (Nat.le_trans (Nat.min_le_left _ _) x1) (fun j hj => by
                by_cases hji : j = i
                · subst hji
                  exact Nat.min_le_right _ _
                · exact Nat.le_trans (Nat.min_le_left _ _) (x2 j (by omega))) (by
                by_cases hle : x ≤ T (s - i * v 9 q 0) + i * y_co q
                · rw [Nat.min_eq_left hle]
                  exact x3.imp id (fun ⟨j, h1, h2⟩ => ⟨j, by omega, h2⟩)
                · rw [Nat.min_eq_right (by omega)]
                  exact Or.inr ⟨i, by omega, rfl⟩)
              rw [nI_succ i, ← x_lmin (by omega) (by omega), ← lN_add, ← t1.2 (s - i * v 9 q 0) (by omega), ← lN_mul, ← nI_l (show i < 2 ^ 31 by omega), ← nI_clamp (show s - i * v 9 q 0 < 2 ^ 31 by omega), ← eix] at e
              exact e
        have e := lp (M + 1) 0 (2 ^ 60) (by omega) (Nat.le_refl _) (fun j hj => by omega) (Or.inl rfl)
        have hw' : (if (1 : Int32) < f 15 (f 12 0 - 1).toNatClampNeg then f 15 (f 12 0 - 1).toNatClampNeg else 1) = nI (v 9 q 0) := by rw [el, nI_clamp (by omega), hw]
        have hm' : (if nI s / nI (v 9 q 0) < f 19 (nI p * 4 + (f 12 0 - 1)).toNatClampNeg then nI s / nI (v 9 q 0) else f 19 (nI p * 4 + (f 12 0 - 1)).toNatClampNeg) = nI M := by rw [el, x_pl4, nI_clamp (by omega), hm]
        rw [← hm', ← hw', ← el] at e
        exact e
      · have c2 : ¬ nI 0 ≤ f 12 0 - 1 := c2
        rw [el, nI_leI (by decide) (by omega)] at c2
        omega
  · have c : ¬ nI s ≤ nI (v_ws v 13 p (v 0 0 0)) := c
    rw [nI_leI (by omega) (by omega)] at c
    refine And.intro ⟨?_, g, rfl, fun _ _ => rfl⟩ ⟨trivial, Nat.le_refl _, Nat.le_refl _⟩
    rw [v_ws_S] at c
    rw [← y_T_way (v_w_1 hB) bK hs (y_T_none (by omega))]
    rfl
theorem c_fill_22 {p s K : Nat} (hC : v_C f g 22 v) (hB : v_B v) (hp : p < v 2 0 0) (hs : s ≤ 999) (hK : K ≤ v 0 0 0) : x_Ct 73 (d + 1) [.ref 99, .ref 22, .int (nI p), .int (nI s), .int (nI K)] (f, g, x_HR r t, dm, n) (x_fp g f (x_HR r t) dm n (v_w v) (v 13 p) K s) := by
  have bK := v_B_K hB
  have bG := v_B_G hB
  have bP := v_B_P hB
  have loop : ∀ m k G T R l7 l8 l9 l10, k + m = K → x_tb g G T s → (∀ j, T j ≤ 2 ^ 60) → (∀ j, j ≤ s → y_T (v_w v) (v 13 p) k j (T j)) → R ≤ s → (∀ j, j ≤ s → R < j → T j = 2 ^ 60) → x_J 73 (d + 1) (x_fp g f (x_HR r t) dm n (v_w v) (v 13 p) K s) 11 [some (.ref 99), some (.ref 22), some (.int (nI p)), some (.int (nI s)), some (.int (nI K)), some (.int (nI R)), some (.int (nI k)), l7, l8, l9, l10] [] (f, G, x_HR r t, dm, n) 0 0 := by
    intro m
    induction m with
    | zero =>
      intro k G T R l7 l8 l9 l10 hk h2 h3 h4 h5 h6
      obtain rfl : k = K := by omega
      refine x_wp_ok ok73 [11, 82] 4 ?_
      refine And.intro (fun c => ?_) (fun c => ?_)
      · exact And.intro ⟨rfl, G, T, rfl, h2, h3, h4⟩ ⟨trivial, Nat.le_refl _, Nat.le_refl _⟩
      · have c : ¬ nI k ≤ nI k := c
        rw [nI_leI (by omega) (by omega)] at c
        omega
    | succ m ih =>
      intro k G T R l7 l8 l9 l10 hk h2 h3 h4 h5 h6
      have o9w : v_ok v 9 k 0 := show k < v 0 0 0 ∧ 0 = 0 from ⟨by omega, rfl⟩
      have h9w : f 25 k = nI (v 9 k 0) := hC.1 9 k 0 o9w
      have b9w : v 9 k 0 ≤ 500 := (hB.1 9 k 0 o9w).2
      have l9w : 1 ≤ v 9 k 0 := (hB.1 9 k 0 o9w).1
      have o13 : v_ok v 13 p k := show p < v 2 0 0 ∧ k < v 0 0 0 from ⟨by omega, by omega⟩
      have h13 : f 29 (4 * p + k) = nI (v 13 p k) := hC.1 13 p k o13
      have b13 : v 13 p k ≤ 9999 := (hB.1 13 p k o13).2
      have hc := y_co_lt k
      have hw : (if (1 : Int32) < f 25 k then f 25 k else 1) = nI (v 9 k 0) := by rw [h9w, x_max1_nI (by omega) l9w]
      obtain ⟨M, hM⟩ : ∃ M, M = min (v 13 p k) (s / v 9 k 0) := ⟨_, rfl⟩
      have hM1 : M ≤ s / v 9 k 0 := by rw [hM]; exact Nat.min_le_right _ _
      have hM2 : M * v 9 k 0 ≤ s := (Nat.le_div_iff_mul_le l9w).mp hM1
      have hd : s / v 9 k 0 ≤ s := Nat.div_le_self _ _
      have hm : (if nI s / nI (v 9 k 0) < f 29 (4 * p + k) then nI s / nI (v 9 k 0) else f 29 (4 * p + k)) = nI M := by
        rw [h13, pk_div (by omega) (by omega) (by omega), x_min_nI (by omega) (by omega), hM]
      have inner : ∀ m' b q B G U R l10, 1000 ≤ B * 2 ^ m' → B ≤ 1998 → 1 ≤ B → b + q = M → (q = 0 ∨ b + 1 = B) → x_tb g G U s → (∀ j, U j ≤ 2 ^ 60) → (∀ j, j ≤ s → y_X (v 9 k 0) (y_co k) b T j (U j)) → R ≤ s → (∀ j, j ≤ s → R < j → U j = 2 ^ 60) → x_J 73 (d + 1) (x_fp g f (x_HR r t) dm n (v_w v) (v 13 p) K s) 82 [some (.ref 99), some (.ref 22), some (.int (nI p)), some (.int (nI s)), some (.int (nI K)), some (.int (nI R)), some (.int (nI k)), some (.int (nI (v 9 k 0))), some (.int (nI q)), some (.int (nI B)), l10] [] (f, G, x_HR r t, dm, n) 0 0 := by
        have done : ∀ q B G U R l10, x_tb g G U s → (∀ j, U j ≤ 2 ^ 60) → (∀ j, j ≤ s → y_X (v 9 k 0) (y_co k) M T j (U j)) → R ≤ s → (∀ j, j ≤ s → R < j → U j = 2 ^ 60) → x_J 73 (d + 1) (x_fp g f (x_HR r t) dm n (v_w v) (v 13 p) K s) 11 [some (.ref 99), some (.ref 22), some (.int (nI p)), some (.int (nI s)), some (.int (nI K)), some (.int (nI R)), some (.int (nI k + 1)), some (.int (nI (v 9 k 0))), q, B, l10] [] (f, G, x_HR r t, dm, n) 0 0 := by
          intro q B G U R l10 u1 u2 u3 u4 u5
          have e := ih (k + 1) G U R (some (.int (nI (v 9 k 0)))) q B l10 (by omega) u1 u2 (fun j hj => y_T_av (w := v_w v) (s := s) hM l9w hj (y_T_X (w := v_w v) (a := v 13 p) (m := k) (b := M) (fun i hi => v_w_1 hB i (by omega)) (by omega) (by omega) (fun s' hs' => h4 s' (by omega)) (u3 j hj))) u4 u5
          rw [nI_succ k] at e
          exact e
        intro m'
        induction m' with
        | zero =>
          intro b q B G U R l10 hB2 hB3 hB1 hq hq2 u1 u2 u3 u4 u5
          obtain rfl : q = 0 := by omega
          obtain rfl : b = M := by omega
          refine x_wp_ok ok73 [11, 82] 4 ?_
          refine And.intro (fun c => ?_) (fun c => ?_)
          · exact done _ _ G U R l10 u1 u2 u3 u4 u5
          · have c : ¬ nI 999 < nI B := c
            rw [nI_ltI (by omega) (by omega)] at c
            omega
        | succ m' ih' =>
          intro b q B G U R l10 hB2 hB3 hB1 hq hq2 u1 u2 u3 u4 u5
          refine x_wp_ok ok73 [11, 82] 4 ?_
          refine And.intro (fun c => ?_) (fun c => ?_)
          · have c : nI 999 < nI B := c
            rw [nI_ltI (by omega) (by omega)] at c
            obtain rfl : q = 0 := by omega
            obtain rfl : b = M := by omega
            exact done _ _ G U R l10 u1 u2 u3 u4 u5
          · have c : ¬ nI 999 < nI B := c
            rw [nI_ltI (by omega) (by omega)] at c
            refine And.intro (fun c2 => ?_) (fun c2 => ?_)
            · have c2 : nI q ≤ nI 0 := c2
              rw [nI_leI (by omega) (by omega)] at c2
              obtain rfl : q = 0 := by omega
              obtain rfl : b = M := by omega
              exact done _ _ G U R l10 u1 u2 u3 u4 u5
            · have c2 : ¬ nI q ≤ nI 0 := c2
              rw [nI_leI (by omega) (by omega)] at c2
              obtain ⟨z, hz⟩ : ∃ z, z = min B q := ⟨_, rfl⟩
              have hz1 : z ≤ B := by rw [hz]; exact Nat.min_le_left _ _
              have hz2 : z ≤ q := by rw [hz]; exact Nat.min_le_right _ _
              have hz3 : 1 ≤ z := by rw [hz]; exact Nat.le_min.mpr ⟨hB1, by omega⟩
              have hzw : z * v 9 k 0 ≤ M * v 9 k 0 := Nat.mul_le_mul_right _ (by omega)
              have hzw1 : 1 * 1 ≤ z * v 9 k 0 := Nat.mul_le_mul hz3 l9w
              have hzc : z * y_co k ≤ 999 * (2 ^ 40 + 1) := Nat.mul_le_mul (by omega) (by omega)
              have ez : (if nI q < nI B then nI q else nI B) = nI z := by rw [x_min_nI (by omega) (by omega), hz]
              have er : (if nI R + nI z * nI (v 9 k 0) < nI s then nI R + nI z * nI (v 9 k 0) else nI s) = nI (min s (R + z * v 9 k 0)) := by
                rw [pk_mul, nI_add, x_min_nI (by omega) (by omega)]
              have hr : min s (R + z * v 9 k 0) ≤ s := Nat.min_le_left _ _
              have ab := c_addBundle (d := d) (f := f) (r := r) (t := t) (dm := dm) (n := n) (W := z * v 9 k 0) (C := z * y_co k) (R := min s (R + z * v 9 k 0)) hzw1 (by omega) (by omega) hr hs u1.2 u2
              rw [← lN_mul, ← nI_l (show z < 2 ^ 31 by omega), ← er, ← pk_mul, ← ez] at ab
              refine Exists.intro _ (And.intro (c_costOf (show k < 4 by omega)) (And.intro (And.intro (Nat.zero_le _) (Nat.zero_le _)) (fun q h' hpo => ?_)))
              obtain ⟨rfl, rfl⟩ := hpo
              refine Exists.intro _ (And.intro ab (And.intro (And.intro (Nat.zero_le _) (Nat.zero_le _)) (fun q h' hpo => ?_)))
              obtain ⟨rfl, G', rfl, g1, g2⟩ := hpo
              have e := ih' (b + z) (q - z) (B * 2) G' _ (min s (R + z * v 9 k 0)) (some (.int (nI z))) (by rw [Nat.mul_assoc, ← Nat.pow_succ']; exact hB2) (by omega) (by omega) (by omega) (by
                  by_cases hqB : q ≤ B
                  · rw [Nat.min_eq_right hqB] at hz; omega
                  · rw [Nat.min_eq_left (by omega)] at hz; omega) ⟨fun k hk => (g1 k hk).trans (u1.1 k hk), g2⟩ (fun j => by
                  show (if _ then _ else _) ≤ _
                  split
                  · exact Nat.le_trans (Nat.min_le_left _ _) (u2 j)
                  · exact u2 j) (fun j hj => by
                  have x1 := y_X_b (w := v 9 k 0) (co := y_co k) (b := b) (z := z) (T := T) (U := U) (s := j) (by omega) (fun s' hs' => u3 s' (by omega))
                  have x2 : (if z * v 9 k 0 ≤ j ∧ j ≤ min s (R + z * v 9 k 0) then min (U j) (U (j - z * v 9 k 0) + z * y_co k) else U j) = (if z * v 9 k 0 ≤ j then min (U j) (U (j - z * v 9 k 0) + z * y_co k) else U j) := by
                    by_cases hc1 : z * v 9 k 0 ≤ j
                    · rw [if_pos hc1]
                      by_cases hc2 : j ≤ min s (R + z * v 9 k 0)
                      · rw [if_pos ⟨hc1, hc2⟩]
                      · rw [if_neg (fun q => hc2 q.2)]
                        have hc3 : R + z * v 9 k 0 < j := by
                          by_cases h9 : s ≤ R + z * v 9 k 0
                          · rw [Nat.min_eq_left h9] at hc2; omega
                          · rw [Nat.min_eq_right (by omega)] at hc2; omega
                        rw [u5 j hj (by omega), u5 (j - z * v 9 k 0) (by omega) (by omega), Nat.min_eq_left (by omega)]
                    · rw [if_neg hc1, if_neg (fun q => hc1 q.1)]
                  show y_X _ _ _ _ _ (if z * v 9 k 0 ≤ j ∧ j ≤ min s (R + z * v 9 k 0) then min (U j) (U (j - z * v 9 k 0) + z * y_co k) else U j)
                  rw [x2]
                  exact x1) hr (fun j hj hj2 => by
                  show (if _ then _ else _) = _
                  rw [if_neg (by omega)]
                  refine u5 j hj ?_
                  by_cases h9 : s ≤ R + z * v 9 k 0
                  · rw [Nat.min_eq_left h9] at hj2; omega
                  · rw [Nat.min_eq_right (by omega)] at hj2; omega)
              rw [← pk_sub hz2, ← er, ← pk_mul B, ← ez] at e
              exact e
      have start : ∀ G U R b q l10, b + q = M → (q = 0 ∨ b + 1 = 1) → x_tb g G U s → (∀ j, U j ≤ 2 ^ 60) → (∀ j, j ≤ s → y_X (v 9 k 0) (y_co k) b T j (U j)) → R ≤ s → (∀ j, j ≤ s → R < j → U j = 2 ^ 60) → x_J 73 (d + 1) (x_fp g f (x_HR r t) dm n (v_w v) (v 13 p) K s) 82 [some (.ref 99), some (.ref 22), some (.int (nI p)), some (.int (nI s)), some (.int (nI K)), some (.int (nI R)), some (.int (nI k)), some (.int (nI (v 9 k 0))), some (.int (nI q)), some (.int (nI 1)), l10] [] (f, G, x_HR r t, dm, n) 0 0 := fun G U R b q l10 a1 a2 a3 a4 a5 a6 a7 => inner 10 b q 1 G U R l10 (by decide) (by decide) (by decide) a1 a2 a3 a4 a5 a6 a7
      refine x_wp_ok ok73 [11, 82] 6 ?_
      refine And.intro (fun c => ?_) (fun c => ?_)
      · have c : nI K ≤ nI k := c
        rw [nI_leI (by omega) (by omega)] at c
        omega
      · refine And.intro (x_ix_nI (by omega) (by omega)) ?_
        rw [nI_clamp (by omega)]
        refine Exists.intro _ (And.intro c_purse (And.intro (And.intro (Nat.zero_le _) (Nat.zero_le _)) (fun q h' hpo => ?_)))
        obtain ⟨rfl, rfl⟩ := hpo
        rw [x_pl4]
        refine And.intro (x_ix_nI (by omega) (by omega)) ?_
        rw [nI_clamp (by omega)]
        refine And.intro (by show ¬ (if (1 : Int32) < f 25 k then f 25 k else 1) = 0; rw [hw]; exact x_ne0 (by omega) l9w) ?_
        refine And.intro (fun cR => ?_) (fun cR => ?_)
        · have cR : ¬ nI R = nI 0 := cR
          rw [nI_eq (by omega) (by decide)] at cR
          have e := start G T R 0 M l10 (by omega) (Or.inr rfl) h2 h3 (fun j hj => y_X_0 (h3 j)) h5 h6
          rw [← hm, ← hw] at e
          exact e
        · have cR : nI R = nI 0 := cR
          rw [nI_eq (by omega) (by decide)] at cR
          subst cR
          have la := c_layAlone (d := d) (f := f) (r := r) (t := t) (dm := dm) (n := n) (W := v 9 k 0) (C := y_co k) (b := M) l9w hM2 hs h2.2
          rw [← hm, ← hw] at la
          refine Exists.intro _ (And.intro (c_costOf (show k < 4 by omega)) (And.intro (And.intro (Nat.zero_le _) (Nat.zero_le _)) (fun q h' hpo => ?_)))
          obtain ⟨rfl, rfl⟩ := hpo
          refine Exists.intro _ (And.intro la (And.intro (And.intro (Nat.zero_le _) (Nat.zero_le _)) (fun q h' hpo => ?_)))
          obtain ⟨rfl, G', rfl, g1, g2⟩ := hpo
          have hT0 : T 0 = 0 := y_T_z (h4 0 (Nat.zero_le _))
          have e := start G' _ (M * v 9 k 0) M 0 l10 rfl (Or.inl rfl) ⟨fun k hk => (g1 k hk).trans (h2.1 k hk), g2⟩ (fun j => by
              show (if _ then _ else _) ≤ _
              split
              · rename_i hc2
                have h9 : j / v 9 k 0 * y_co k ≤ 999 * (2 ^ 40 + 1) := Nat.mul_le_mul (by omega) (by omega)
                exact Nat.le_trans h9 (by decide)
              · exact h3 j) (fun j hj => by
              refine y_X_a (V := fun j => if 1 ≤ j ∧ j % v 9 k 0 = 0 ∧ j / v 9 k 0 ≤ M then j / v 9 k 0 * y_co k else T j) l9w hT0 (fun s' hs' h0 => h6 s' (by omega) (by omega)) (fun i hi hi2 => ?_) (fun i hi hi2 => ?_) (fun hn => ?_)
              · have h9 : i * y_co k ≤ 999 * (2 ^ 40 + 1) := Nat.mul_le_mul (by omega) (by omega)
                omega
              · subst hi2
                show (if _ then _ else _) = _
                by_cases hi0 : i = 0
                · subst hi0
                  rw [Nat.zero_mul, Nat.zero_mul, if_neg (by omega)]
                  exact hT0
                · have h9 : 1 * 1 ≤ i * v 9 k 0 := Nat.mul_le_mul (by omega) l9w
                  rw [Nat.mul_div_cancel i l9w, Nat.mul_mod_left, if_pos ⟨h9, rfl, hi⟩]
              · show (if _ then _ else _) = _
                rw [if_neg (fun hc3 => hn (j / v 9 k 0) hc3.2.2 (Nat.div_mul_cancel (Nat.dvd_of_mod_eq_zero hc3.2.1)))]
                have h9 := hn 0 (Nat.zero_le _)
                exact h6 j hj (by omega)) hM2 (fun j hj hj2 => by
              show (if _ then _ else _) = _
              rw [if_neg (fun hc3 => ?_)]
              · exact h6 j hj (by omega)
              · have h9 := Nat.div_mul_cancel (Nat.dvd_of_mod_eq_zero hc3.2.1)
                have h10 : j / v 9 k 0 * v 9 k 0 ≤ M * v 9 k 0 := Nat.mul_le_mul_right _ hc3.2.2
                omega)
          rw [← pk_mul, ← hm, ← hw] at e
          exact e
  refine x_Ct_w (by decide) (Nat.le_of_ble_eq_true rfl) ok73 [11, 82] 4 ?_
  refine Exists.intro _ (And.intro (c_beginWays hs) (And.intro (And.intro (Nat.zero_le _) (Nat.zero_le _)) (fun q h' hpo => ?_)))
  obtain ⟨rfl, G, rfl, hG⟩ := hpo
  exact loop K 0 G y_T0 0 none none none none (Nat.zero_add _) hG (fun j => by unfold y_T0; split <;> omega) (fun j hj => y_T_0 _ _ j) (Nat.zero_le _) (fun j hj hj2 => by unfold y_T0; rw [if_neg (by omega)])
theorem c_wayFromPurse_22 {p s : Nat} (hC : v_C f g 22 v) (hB : v_B v) (hp : p < v 2 0 0) (hs : s ≤ 999) : x_Ct 72 (d + 2) [.ref 99, .ref 22, .int (nI p), .int (nI s)] (f, g, x_HR r t, dm, n) (fun q h' => q = some (.long (lN (y_way (v_w v) (v 13 p) (v 0 0 0) s))) ∧ ∃ G, h' = (f, G, x_HR r t, dm, n) ∧ ∀ k, k ≠ 100 → G k = g k) := by
  have bK := v_B_K hB
  have bG := v_B_G hB
  have bP := v_B_P hB
  have o0 : v_ok v 0 0 0 := ⟨rfl, rfl⟩
  have h0 : f 22 0 = nI (v 0 0 0) := hC.1 0 0 0 o0
  have b0 : v 0 0 0 ≤ 4 := (hB.1 0 0 0 o0).2
  have hws := v_ws_le4 hB (c := 13) (Or.inl rfl) hp
  have cw := c_worthOf_22_29 (f := f) (g := g) (r := r) (t := t) (dm := dm) (n := n) (d := d) (p := p) h0 bK (by omega)
  rw [show x_wsum (f 29) (f 25) (4 * p) (v 0 0 0) = nI (v_ws v 13 p (v 0 0 0)) from v_C_ws hC (Or.inl rfl) hp _ (Nat.le_refl _)] at cw
  refine x_Ct_w (by decide) (Nat.le_of_ble_eq_true rfl) ok72 [89] 6 ?_
  refine Exists.intro _ (And.intro cw (And.intro (And.intro (Nat.zero_le _) (Nat.zero_le _)) (fun q h' hpo => ?_)))
  obtain ⟨rfl, rfl⟩ := hpo
  refine And.intro (fun c => ?_) (fun c => ?_)
  · have c : nI s ≤ nI (v_ws v 13 p (v 0 0 0)) := c
    rw [nI_leI (by omega) (by omega)] at c
    by_cases hK0 : v 0 0 0 = 0
    · have hs0 : s = 0 := by
        rw [hK0] at c
        exact Nat.le_zero.mp c
      refine And.intro (fun c2 => ?_) (fun c2 => ?_)
      · have c2 : nI 0 ≤ f 22 0 - nI 1 := c2
        rw [h0, hK0] at c2
        exact absurd c2 (by decide)
      · refine And.intro ⟨?_, g, rfl, fun _ _ => rfl⟩ ⟨trivial, Nat.le_refl _, Nat.le_refl _⟩
        rw [hs0, hK0]
        exact congrArg (fun z => some (Value.long z)) (show (0 : Int64) = lN (y_way (v_w v) (v 13 p) 0 0) from rfl)
    · obtain ⟨q, hq⟩ : ∃ q, v 0 0 0 = q + 1 := ⟨v 0 0 0 - 1, by omega⟩
      have el : f 22 0 - 1 = nI q := by rw [h0, hq, nI_pred]
      have o9w : v_ok v 9 q 0 := show q < v 0 0 0 ∧ 0 = 0 from ⟨by omega, rfl⟩
      have h9w : f 25 q = nI (v 9 q 0) := hC.1 9 q 0 o9w
      have b9w : v 9 q 0 ≤ 500 := (hB.1 9 q 0 o9w).2
      have l9w : 1 ≤ v 9 q 0 := (hB.1 9 q 0 o9w).1
      have o13 : v_ok v 13 p q := show p < v 2 0 0 ∧ q < v 0 0 0 from ⟨by omega, by omega⟩
      have h13 : f 29 (4 * p + q) = nI (v 13 p q) := hC.1 13 p q o13
      have b13 : v 13 p q ≤ 9999 := (hB.1 13 p q o13).2
      have hc := y_co_lt q
      have hw : (if (1 : Int32) < f 25 q then f 25 q else 1) = nI (v 9 q 0) := by rw [h9w, x_max1_nI (by omega) l9w]
      obtain ⟨M, hM⟩ : ∃ M, M = min (v 13 p q) (s / v 9 q 0) := ⟨_, rfl⟩
      have hM1 : M ≤ s / v 9 q 0 := by rw [hM]; exact Nat.min_le_right _ _
      have hM2 : M * v 9 q 0 ≤ s := (Nat.le_div_iff_mul_le l9w).mp hM1
      have hd : s / v 9 q 0 ≤ s := Nat.div_le_self _ _
      have hm : (if nI s / nI (v 9 q 0) < f 29 (4 * p + q) then nI s / nI (v 9 q 0) else f 29 (4 * p + q)) = nI M := by
        rw [h13, pk_div (by omega) (by omega) (by omega), x_min_nI (by omega) (by omega), hM]
      refine And.intro (fun c2 => ?_) (fun c2 => ?_)
      · have cf := c_fill_22 (r := r) (t := t) (dm := dm) (n := n) (d := d) (K := q) hC hB hp hs (by omega)
        rw [← el] at cf
        refine Exists.intro _ (And.intro cf (And.intro (And.intro (Nat.zero_le _) (Nat.zero_le _)) (fun q h' hpo => ?_)))
        obtain ⟨rfl, G, T, rfl, t1, t2, t3⟩ := hpo
        refine And.intro (by show x_ix (f 22 0 - 1) 4; rw [el]; exact x_ix_nI (by omega) (by omega)) ?_
        have cp := c_purse (d := d + 1) (h := (f, G, x_HR r t, dm, n)) (x := nI p) (y := nI q)
        rw [← el] at cp
        refine Exists.intro _ (And.intro cp (And.intro (And.intro (Nat.zero_le _) (Nat.zero_le _)) (fun q h' hpo => ?_)))
        obtain ⟨rfl, rfl⟩ := hpo
        refine And.intro (by show x_ix (nI p * 4 + (f 22 0 - 1)) 20; rw [el, x_pl4]; exact x_ix_nI (by omega) (by omega)) ?_
        refine And.intro (by show ¬ (if (1 : Int32) < f 25 (f 22 0 - 1).toNatClampNeg then f 25 (f 22 0 - 1).toNatClampNeg else 1) = 0; rw [el, nI_clamp (by omega), hw]; exact x_ne0 (by omega) l9w) ?_
        have cc := c_costOf (d := d + 1) (h := (f, G, x_HR r t, dm, n)) (show q < 4 by omega)
        rw [← el] at cc
        refine Exists.intro _ (And.intro cc (And.intro (And.intro (Nat.zero_le _) (Nat.zero_le _)) (fun q h' hpo => ?_)))
        obtain ⟨rfl, rfl⟩ := hpo
        have lp : ∀ m i x, i + m = M + 1 → x ≤ 2 ^ 60 → (∀ j, j < i → x ≤ T (s - j * v 9 q 0) + j * y_co q) → (x = 2 ^ 60 ∨ ∃ j, j < i ∧ x = T (s - j * v 9 q 0) + j * y_co q) → x_J 72 (d + 2) (fun q h' => q = some (.long (lN (y_way (v_w v) (v 13 p) (v 0 0 0) s))) ∧ ∃ G, h' = (f, G, x_HR r t, dm, n) ∧ ∀ k, k ≠ 100 → G k = g k) 89 [some (.ref 99), some (.ref 22), some (.int (nI p)), some (.int (nI s)), some (.int (nI q)), some (.int (nI (v 9 q 0))), some (.int (nI M)), some (.long (lN (y_co q))), none, some (.long (lN x)), none, some (.int (nI i))] [] (f, G, x_HR r t, dm, n) 0 0 := by
          intro m
          induction m with
          | zero =>
            intro i x hi x1 x2 x3
            refine x_wp_ok ok72 [89] 4 ?_
            refine And.intro (fun c => ?_) (fun c => ?_)
            · refine And.intro ⟨?_, G, rfl, t1.1⟩ ⟨trivial, Nat.le_refl _, Nat.le_refl _⟩
              have eX : y_X (v_w v q) (y_co q) M T s x := ⟨x1, fun j h1 h2 => x2 j (by omega), x3.imp id (fun ⟨j, h1, h2⟩ => ⟨j, by omega, Nat.le_trans (Nat.mul_le_mul_right _ (by omega)) hM2, h2⟩)⟩
              have eT := y_T_av (w := v_w v) (a := v 13 p) (s := s) hM l9w (Nat.le_refl _) (y_T_X (w := v_w v) (a := v 13 p) (m := q) (b := M) (fun i hi => v_w_1 hB i (by omega)) (by omega) hs t3 eX)
              rw [← hq] at eT
              rw [← y_T_way (v_w_1 hB) bK hs eT]
            · have c : ¬ nI M < nI i := c
              rw [nI_ltI (by omega) (by omega)] at c
              omega
          | succ m ih =>
            intro i x hi x1 x2 x3
            have hiw : i * v 9 q 0 ≤ M * v 9 q 0 := Nat.mul_le_mul_right _ (by omega)
            have hic : i * y_co q ≤ 999 * (2 ^ 40 + 1) := Nat.mul_le_mul (by omega) (by omega)
            have hT := t2 (s - i * v 9 q 0)
            have eix : nI s - nI i * nI (v 9 q 0) = nI (s - i * v 9 q 0) := by rw [pk_mul, pk_sub (by omega)]
            refine x_wp_ok ok72 [89] 4 ?_
            refine And.intro (fun c => ?_) (fun c => ?_)
            · have c : nI M < nI i := c
              rw [nI_ltI (by omega) (by omega)] at c
              omega
            · refine And.intro (by show x_ix (nI s - nI i * nI (v 9 q 0)) 1000; rw [eix]; exact x_ix_nI (by omega) (by omega)) ?_
              have e := ih (i + 1) (min x (T (s - i * v 9 q 0) + i * y_co q)) (by omega) (Nat.le_trans (Nat.min_le_left _ _) x1) (fun j hj => by
                by_cases hji : j = i
                · subst hji
                  exact Nat.min_le_right _ _
                · exact Nat.le_trans (Nat.min_le_left _ _) (x2 j (by omega))) (by
                by_cases hle : x ≤ T (s - i * v 9 q 0) + i * y_co q
                · rw [Nat.min_eq_left hle]
                  exact x3.imp id (fun ⟨j, h1, h2⟩ => ⟨j, by omega, h2⟩)
                · rw [Nat.min_eq_right (by omega)]
                  exact Or.inr ⟨i, by omega, rfl⟩)
              rw [nI_succ i, ← x_lmin (by omega) (by omega), ← lN_add, ← t1.2 (s - i * v 9 q 0) (by omega), ← lN_mul, ← nI_l (show i < 2 ^ 31 by omega), ← nI_clamp (show s - i * v 9 q 0 < 2 ^ 31 by omega), ← eix] at e
              exact e
        have e := lp (M + 1) 0 (2 ^ 60) (by omega) (Nat.le_refl _) (fun j hj => by omega) (Or.inl rfl)
        have hw' : (if (1 : Int32) < f 25 (f 22 0 - 1).toNatClampNeg then f 25 (f 22 0 - 1).toNatClampNeg else 1) = nI (v 9 q 0) := by rw [el, nI_clamp (by omega), hw]
        have hm' : (if nI s / nI (v 9 q 0) < f 29 (nI p * 4 + (f 22 0 - 1)).toNatClampNeg then nI s / nI (v 9 q 0) else f 29 (nI p * 4 + (f 22 0 - 1)).toNatClampNeg) = nI M := by rw [el, x_pl4, nI_clamp (by omega), hm]
        rw [← hm', ← hw', ← el] at e
        exact e
      · have c2 : ¬ nI 0 ≤ f 22 0 - 1 := c2
        rw [el, nI_leI (by decide) (by omega)] at c2
        omega
  · have c : ¬ nI s ≤ nI (v_ws v 13 p (v 0 0 0)) := c
    rw [nI_leI (by omega) (by omega)] at c
    refine And.intro ⟨?_, g, rfl, fun _ _ => rfl⟩ ⟨trivial, Nat.le_refl _, Nat.le_refl _⟩
    rw [v_ws_S] at c
    rw [← y_T_way (v_w_1 hB) bK hs (y_T_none (by omega))]
    rfl
end C35
