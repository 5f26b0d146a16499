/-! THE TELLER: ways -/
def v_w (v : xV) : Nat → Nat := fun i => v 9 i 0
def y_pv (w co : Nat) (T : Nat → Nat) : Nat → Nat → Nat
  | 0, s => T s
  | q + 1, s => if w ≤ s then min (T s) (y_pv w co T q (s - w) + co) else T s
theorem y_pv_st {w co : Nat} {T : Nat → Nat} (hw : 1 ≤ w) : ∀ q q' s, s ≤ q → s ≤ q' → y_pv w co T q s = y_pv w co T q' s
  | 0, 0, s, _, _ => rfl
  | 0, q' + 1, s, h1, h2 => by
    show T s = if w ≤ s then _ else T s
    rw [if_neg (by omega)]
  | q + 1, 0, s, h1, h2 => by
    show (if w ≤ s then _ else T s) = T s
    rw [if_neg (by omega)]
  | q + 1, q' + 1, s, h1, h2 => by
    show (if w ≤ s then min (T s) (y_pv w co T q (s - w) + co) else T s) = (if w ≤ s then min (T s) (y_pv w co T q' (s - w) + co) else T s)
    by_cases h : w ≤ s
    · rw [if_pos h, if_pos h, y_pv_st hw q q' (s - w) (by omega) (by omega)]
    · rw [if_neg h, if_neg h]
def y_pV (w co : Nat) (T : Nat → Nat) (s : Nat) : Nat := y_pv w co T s s
theorem y_pV_eq {w co : Nat} {T : Nat → Nat} (hw : 1 ≤ w) : ∀ s, y_pV w co T s = if w ≤ s then min (T s) (y_pV w co T (s - w) + co) else T s
  | 0 => by rw [if_neg (by omega)]; rfl
  | s + 1 => by
    show (if w ≤ s + 1 then min (T (s + 1)) (y_pv w co T s (s + 1 - w) + co) else T (s + 1)) = (if w ≤ s + 1 then min (T (s + 1)) (y_pv w co T (s + 1 - w) (s + 1 - w) + co) else T (s + 1))
    by_cases h : w ≤ s + 1
    · rw [if_pos h, if_pos h, y_pv_st hw s (s + 1 - w) (s + 1 - w) (by omega) (Nat.le_refl _)]
    · rw [if_neg h, if_neg h]
theorem y_pV_le {w co : Nat} {T : Nat → Nat} (hw : 1 ≤ w) (hT : ∀ s, T s ≤ 2 ^ 60) (s : Nat) : y_pV w co T s ≤ 2 ^ 60 := by
  rw [y_pV_eq hw s]
  split
  · exact Nat.le_trans (Nat.min_le_left _ _) (hT s)
  · exact hT s
theorem y_co_lt (k : Nat) : y_co k < 2 ^ 40 + 1 := Nat.lt_of_le_of_lt (Nat.sub_le _ _) (by decide)
theorem y_T_none {w a : Nat → Nat} {m s : Nat} (h : y_S (fun i => a i * w i) m 0 < s) : y_T w a m s (2 ^ 60) := by
  refine Or.inr ⟨fun c hc => ?_, rfl⟩
  have h1 : y_S (fun i => c i * w i) m 0 ≤ y_S (fun i => a i * w i) m 0 := y_S_le m 0 (fun i h1 h2 => Nat.mul_le_mul_right _ (hc.1 i h1 h2))
  rw [hc.2] at h1
  omega
theorem v_ws_S (v : xV) (p : Nat) : ∀ k, v_ws v 13 p k = y_S (fun i => v 13 p i * v_w v i) k 0
  | 0 => rfl
  | k + 1 => by
    rw [y_S_last, ← v_ws_S v p k, Nat.zero_add]
    rfl
theorem v_w_1 {v : xV} (hB : v_B v) : ∀ i, i < v 0 0 0 → 1 ≤ v_w v i := fun i hi => (hB.1 9 i 0 (show i < v 0 0 0 ∧ 0 = 0 from ⟨hi, rfl⟩)).1
theorem v_w_500 {v : xV} (hB : v_B v) : ∀ i, i < v 0 0 0 → v_w v i ≤ 500 := fun i hi => (hB.1 9 i 0 (show i < v 0 0 0 ∧ 0 = 0 from ⟨hi, rfl⟩)).2
section C34
variable {f : Nat → Nat → Int32} {g : Nat → Nat → Int64} {r t : Nat} {ρ : Nat → Nat → Option Nat} {dm : List Nat} {n d N : Nat} {v : xV} {h : xH}
theorem c_wayOfPrint_12 {s : Nat} (hC : v_C f g 12 v) (hB : v_B v) (hs : s ≤ 999) : x_Ct 76 (d + 1) [.ref 99, .ref 12, .int (nI s)] (f, g, x_HR r t, dm, n) (fun q h' => q = some (.long (lN (y_way (v_w v) (fun _ => 999) (v 0 0 0) s))) ∧ ∃ G, h' = (f, G, x_HR r t, dm, n) ∧ ∀ k, k ≠ 100 → G k = g k) := by
  have bK := v_B_K hB
  have bG := v_B_G hB
  have bP := v_B_P hB
  have o0 : v_ok v 0 0 0 := ⟨rfl, rfl⟩
  have h0 : f 12 0 = nI (v 0 0 0) := hC.1 0 0 0 o0
  have b0 : v 0 0 0 ≤ 4 := (hB.1 0 0 0 o0).2
  have loop : ∀ m k G T l4 l5 l7 l8, k + m = v 0 0 0 → x_tb g G T s → (∀ j, T j ≤ 2 ^ 60) → (∀ j, j ≤ s → y_T (v_w v) (fun _ => 999) k j (T j)) → x_J 76 (d + 1) (fun q h' => q = some (.long (lN (y_way (v_w v) (fun _ => 999) (v 0 0 0) s))) ∧ ∃ G, h' = (f, G, x_HR r t, dm, n) ∧ ∀ k, k ≠ 100 → G k = g k) 7 [some (.ref 99), some (.ref 12), some (.int (nI s)), some (.int (nI k)), l4, l5, none, l7, l8, none] [] (f, G, x_HR r t, dm, n) 0 0 := by
    intro m
    induction m with
    | zero =>
      intro k G T l4 l5 l7 l8 hk h2 h3 h4
      refine x_wp_ok ok76 [7, 37] 4 ?_
      refine And.intro (fun c => ?_) (fun c => ?_)
      · rw [Nat.add_zero] at hk
        subst hk
        refine And.intro (x_ix_nI (by omega) (by omega)) ?_
        rw [nI_clamp (by omega)]
        refine And.intro ⟨?_, G, rfl, h2.1⟩ ⟨trivial, Nat.le_refl _, Nat.le_refl _⟩
        have e : G 100 s = lN (y_way (v_w v) (fun _ => 999) (v 0 0 0) s) := by
          rw [h2.2 s (Nat.le_refl _), y_T_way (v_w_1 hB) bK hs (h4 s (Nat.le_refl _))]
        exact congrArg (fun z => some (Value.long z)) e
      · have c : ¬ f 12 0 ≤ nI k := c
        rw [h0, nI_leI (by omega) (by omega)] at c
        omega
    | succ m ih =>
      intro k G T l4 l5 l7 l8 hk h2 h3 h4
      have o9 : v_ok v 9 k 0 := show k < v 0 0 0 ∧ 0 = 0 from ⟨by omega, rfl⟩
      have h9 : f 15 k = nI (v 9 k 0) := hC.1 9 k 0 o9
      have b9 : v 9 k 0 ≤ 500 := (hB.1 9 k 0 o9).2
      have l9 : 1 ≤ v 9 k 0 := (hB.1 9 k 0 o9).1
      have hw : (if (1 : Int32) < f 15 k then f 15 k else 1) = nI (v 9 k 0) := by rw [h9, x_max1_nI (by omega) l9]
      have hc := y_co_lt k
      have inner : ∀ m' i G l8, s + 1 ≤ i + m' → v 9 k 0 ≤ i → i ≤ 1000 → x_tb g G (fun j => if j < i then y_pV (v 9 k 0) (y_co k) T j else T j) s → x_J 76 (d + 1) (fun q h' => q = some (.long (lN (y_way (v_w v) (fun _ => 999) (v 0 0 0) s))) ∧ ∃ G, h' = (f, G, x_HR r t, dm, n) ∧ ∀ k, k ≠ 100 → G k = g k) 37 [some (.ref 99), some (.ref 12), some (.int (nI s)), some (.int (nI k)), some (.int (nI (v 9 k 0))), some (.long (lN (y_co k))), none, some (.int (nI i)), l8, none] [] (f, G, x_HR r t, dm, n) 0 0 := by
        intro m'
        induction m' with
        | zero =>
          intro i G l8 hi hi2 hi3 h5
          refine x_wp_ok ok76 [7, 37] 4 ?_
          refine And.intro (fun c => ?_) (fun c => ?_)
          · have e := ih (k + 1) G (y_pV (v 9 k 0) (y_co k) T) (some (.int (nI (v 9 k 0)))) (some (.long (lN (y_co k)))) (some (.int (nI i))) l8 (by omega) ⟨h5.1, fun j hj => by rw [h5.2 j hj]; dsimp only; rw [if_pos (by omega)]⟩ (y_pV_le l9 h3) (fun j hj => by
              have e1 := y_X_p (co := y_co k) (V := y_pV (v 9 k 0) (y_co k) T) l9 h3 (y_pV_eq l9) j j (Nat.le_refl _)
              have e2 := y_T_X (w := v_w v) (a := fun _ => 999) (m := k) (b := j) (fun i hi => v_w_1 hB i (by omega)) (by omega) (by omega) (fun s' hs' => h4 s' (by omega)) e1
              refine y_T_cg (fun i hi q hq => ?_) e2
              have h6 : q * 1 ≤ q * v_w v i := Nat.mul_le_mul_left q (v_w_1 hB i (by omega))
              unfold y_av
              by_cases e : i = k
              · rw [if_pos e]
                omega
              · rw [if_neg e])
            rw [nI_succ k] at e
            exact e
          · have c : ¬ nI s < nI i := c
            rw [nI_ltI (by omega) (by omega)] at c
            omega
        | succ m' ih' =>
          intro i G l8 hi hi2 hi3 h5
          refine x_wp_ok ok76 [7, 37] 4 ?_
          refine And.intro (fun c => ?_) (fun c => ?_)
          · have c : nI s < nI i := c
            rw [nI_ltI (by omega) (by omega)] at c
            have e := ih (k + 1) G (y_pV (v 9 k 0) (y_co k) T) (some (.int (nI (v 9 k 0)))) (some (.long (lN (y_co k)))) (some (.int (nI i))) l8 (by omega) ⟨h5.1, fun j hj => by rw [h5.2 j hj]; dsimp only; rw [if_pos (by omega)]⟩ (y_pV_le l9 h3) (fun j hj => by
              have e1 := y_X_p (co := y_co k) (V := y_pV (v 9 k 0) (y_co k) T) l9 h3 (y_pV_eq l9) j j (Nat.le_refl _)
              have e2 := y_T_X (w := v_w v) (a := fun _ => 999) (m := k) (b := j) (fun i hi => v_w_1 hB i (by omega)) (by omega) (by omega) (fun s' hs' => h4 s' (by omega)) e1
              refine y_T_cg (fun i hi q hq => ?_) e2
              have h6 : q * 1 ≤ q * v_w v i := Nat.mul_le_mul_left q (v_w_1 hB i (by omega))
              unfold y_av
              by_cases e : i = k
              · rw [if_pos e]
                omega
              · rw [if_neg e])
            rw [nI_succ k] at e
            exact e
          · have c : ¬ nI s < nI i := c
            rw [nI_ltI (by omega) (by omega)] at c
            have g1 : G 100 (i - v 9 k 0) = lN (y_pV (v 9 k 0) (y_co k) T (i - v 9 k 0)) := by rw [h5.2 _ (by omega)]; dsimp only; rw [if_pos (by omega)]
            have g2 : G 100 i = lN (T i) := by rw [h5.2 _ (by omega)]; dsimp only; rw [if_neg (by omega)]
            have b1 := y_pV_le (co := y_co k) l9 h3 (i - v 9 k 0)
            have b2 := h3 i
            have eV := y_pV_eq (co := y_co k) (T := T) l9 i
            rw [if_pos hi2] at eV
            refine And.intro (by show x_ix (nI i - nI (v 9 k 0)) 1000; rw [pk_sub (by omega)]; exact x_ix_nI (by omega) (by omega)) ?_
            rw [pk_sub (by omega), nI_clamp (by omega)]
            refine And.intro (x_ix_nI (by omega) (by omega)) ?_
            rw [nI_clamp (by omega)]
            refine And.intro (fun c2 => ?_) (fun c2 => ?_)
            · have c2 : 0 ≤ lg_cmp (G 100 (i - v 9 k 0) + lN (y_co k)) (G 100 i) := c2
              rw [x_lg_ge, g1, g2, lN_add, pk_lLE (by omega) (by omega)] at c2
              rw [Nat.min_eq_left c2] at eV
              have e := ih' (i + 1) G (some (.long (G 100 (i - v 9 k 0) + lN (y_co k)))) (by omega) (by omega) (by omega) ⟨h5.1, fun j hj => by
                rw [h5.2 j hj]
                congr 1
                dsimp only
                by_cases hj : j = i
                · subst hj
                  rw [if_neg (by omega), if_pos (by omega), eV]
                · by_cases hc : j < i
                  · rw [if_pos hc, if_pos (by omega)]
                  · rw [if_neg hc, if_neg (by omega)]⟩
              rw [nI_succ i] at e
              exact e
            · have c2 : ¬ 0 ≤ lg_cmp (G 100 (i - v 9 k 0) + lN (y_co k)) (G 100 i) := c2
              rw [x_lg_ge, g1, g2, lN_add, pk_lLE (by omega) (by omega)] at c2
              rw [Nat.min_eq_right (by omega)] at eV
              refine And.intro (x_ix_nI (by omega) (by omega)) ?_
              rw [nI_clamp (by omega)]
              have e := ih' (i + 1) (x_up G 100 i (G 100 (i - v 9 k 0) + lN (y_co k))) (some (.long (G 100 (i - v 9 k 0) + lN (y_co k)))) (by omega) (by omega) (by omega) ⟨fun k hk => by rw [x_up_k hk]; exact h5.1 k hk, fun j hj => by
                by_cases hj1 : j = i
                · subst hj1
                  dsimp only
                  rw [x_up_s, if_pos (by omega), g1, lN_add, eV]
                · rw [x_up_j hj1, h5.2 j hj]
                  congr 1
                  dsimp only
                  by_cases hc : j < i
                  · rw [if_pos hc, if_pos (by omega)]
                  · rw [if_neg hc, if_neg (by omega)]⟩
              rw [nI_succ i] at e
              exact e
      refine x_wp_ok ok76 [7, 37] 4 ?_
      refine And.intro (fun c => ?_) (fun c => ?_)
      · have c : f 12 0 ≤ nI k := c
        rw [h0, nI_leI (by omega) (by omega)] at c
        omega
      · refine And.intro (x_ix_nI (by omega) (by omega)) ?_
        rw [nI_clamp (by omega)]
        refine Exists.intro _ (And.intro (c_costOf (show k < 4 by omega)) (And.intro (And.intro (Nat.zero_le _) (Nat.zero_le _)) (fun q h' hpo => ?_)))
        obtain ⟨rfl, rfl⟩ := hpo
        have e := inner 1000 (v 9 k 0) G l8 (by omega) (Nat.le_refl _) (by omega) ⟨h2.1, fun j hj => by
          rw [h2.2 j hj]
          congr 1
          dsimp only
          by_cases hc : j < v 9 k 0
          · rw [if_pos hc, y_pV_eq l9 j, if_neg (by omega)]
          · rw [if_neg hc]⟩
        rw [← hw] at e
        exact e
  refine x_Ct_w (by decide) (Nat.le_of_ble_eq_true rfl) ok76 [7, 37] 4 ?_
  refine Exists.intro _ (And.intro (c_beginWays hs) (And.intro (And.intro (Nat.zero_le _) (Nat.zero_le _)) (fun q h' hpo => ?_)))
  obtain ⟨rfl, G, rfl, hG⟩ := hpo
  exact loop (v 0 0 0) 0 G y_T0 none none none none (Nat.zero_add _) hG (fun j => by unfold y_T0; split <;> omega) (fun j hj => y_T_0 _ _ j)
theorem c_wayOfPrint_22 {s : Nat} (hC : v_C f g 22 v) (hB : v_B v) (hs : s ≤ 999) : x_Ct 76 (d + 1) [.ref 99, .ref 22, .int (nI s)] (f, g, x_HR r t, dm, n) (fun q h' => q = some (.long (lN (y_way (v_w v) (fun _ => 999) (v 0 0 0) s))) ∧ ∃ G, h' = (f, G, x_HR r t, dm, n) ∧ ∀ k, k ≠ 100 → G k = g k) := by
  have bK := v_B_K hB
  have bG := v_B_G hB
  have bP := v_B_P hB
  have o0 : v_ok v 0 0 0 := ⟨rfl, rfl⟩
  have h0 : f 22 0 = nI (v 0 0 0) := hC.1 0 0 0 o0
  have b0 : v 0 0 0 ≤ 4 := (hB.1 0 0 0 o0).2
  have loop : ∀ m k G T l4 l5 l7 l8, k + m = v 0 0 0 → x_tb g G T s → (∀ j, T j ≤ 2 ^ 60) → (∀ j, j ≤ s → y_T (v_w v) (fun _ => 999) k j (T j)) → x_J 76 (d + 1) (fun q h' => q = some (.long (lN (y_way (v_w v) (fun _ => 999) (v 0 0 0) s))) ∧ ∃ G, h' = (f, G, x_HR r t, dm, n) ∧ ∀ k, k ≠ 100 → G k = g k) 7 [some (.ref 99), some (.ref 22), some (.int (nI s)), some (.int (nI k)), l4, l5, none, l7, l8, none] [] (f, G, x_HR r t, dm, n) 0 0 := by
    intro m
    induction m with
    | zero =>
      intro k G T l4 l5 l7 l8 hk h2 h3 h4
      refine x_wp_ok ok76 [7, 37] 4 ?_
      refine And.intro (fun c => ?_) (fun c => ?_)
      · rw [Nat.add_zero] at hk
        subst hk
        refine And.intro (x_ix_nI (by omega) (by omega)) ?_
        rw [nI_clamp (by omega)]
        refine And.intro ⟨?_, G, rfl, h2.1⟩ ⟨trivial, Nat.le_refl _, Nat.le_refl _⟩
        have e : G 100 s = lN (y_way (v_w v) (fun _ => 999) (v 0 0 0) s) := by
          rw [h2.2 s (Nat.le_refl _), y_T_way (v_w_1 hB) bK hs (h4 s (Nat.le_refl _))]
        exact congrArg (fun z => some (Value.long z)) e
      · have c : ¬ f 22 0 ≤ nI k := c
        rw [h0, nI_leI (by omega) (by omega)] at c
        omega
    | succ m ih =>
      intro k G T l4 l5 l7 l8 hk h2 h3 h4
      have o9 : v_ok v 9 k 0 := show k < v 0 0 0 ∧ 0 = 0 from ⟨by omega, rfl⟩
      have h9 : f 25 k = nI (v 9 k 0) := hC.1 9 k 0 o9
      have b9 : v 9 k 0 ≤ 500 := (hB.1 9 k 0 o9).2
      have l9 : 1 ≤ v 9 k 0 := (hB.1 9 k 0 o9).1
      have hw : (if (1 : Int32) < f 25 k then f 25 k else 1) = nI (v 9 k 0) := by rw [h9, x_max1_nI (by omega) l9]
      have hc := y_co_lt k
      have inner : ∀ m' i G l8, s + 1 ≤ i + m' → v 9 k 0 ≤ i → i ≤ 1000 → x_tb g G (fun j => if j < i then y_pV (v 9 k 0) (y_co k) T j else T j) s → x_J 76 (d + 1) (fun q h' => q = some (.long (lN (y_way (v_w v) (fun _ => 999) (v 0 0 0) s))) ∧ ∃ G, h' = (f, G, x_HR r t, dm, n) ∧ ∀ k, k ≠ 100 → G k = g k) 37 [some (.ref 99), some (.ref 22), some (.int (nI s)), some (.int (nI k)), some (.int (nI (v 9 k 0))), some (.long (lN (y_co k))), none, some (.int (nI i)), l8, none] [] (f, G, x_HR r t, dm, n) 0 0 := by
        intro m'
        induction m' with
        | zero =>
          intro i G l8 hi hi2 hi3 h5
          refine x_wp_ok ok76 [7, 37] 4 ?_
          refine And.intro (fun c => ?_) (fun c => ?_)
          · have e := ih (k + 1) G (y_pV (v 9 k 0) (y_co k) T) (some (.int (nI (v 9 k 0)))) (some (.long (lN (y_co k)))) (some (.int (nI i))) l8 (by omega) ⟨h5.1, fun j hj => by rw [h5.2 j hj]; dsimp only; rw [if_pos (by omega)]⟩ (y_pV_le l9 h3) (fun j hj => by
              have e1 := y_X_p (co := y_co k) (V := y_pV (v 9 k 0) (y_co k) T) l9 h3 (y_pV_eq l9) j j (Nat.le_refl _)
              have e2 := y_T_X (w := v_w v) (a := fun _ => 999) (m := k) (b := j) (fun i hi => v_w_1 hB i (by omega)) (by omega) (by omega) (fun s' hs' => h4 s' (by omega)) e1
              refine y_T_cg (fun i hi q hq => ?_) e2
              have h6 : q * 1 ≤ q * v_w v i := Nat.mul_le_mul_left q (v_w_1 hB i (by omega))
              unfold y_av
              by_cases e : i = k
              · rw [if_pos e]
                omega
              · rw [if_neg e])
            rw [nI_succ k] at e
            exact e
          · have c : ¬ nI s < nI i := c
            rw [nI_ltI (by omega) (by omega)] at c
            omega
        | succ m' ih' =>
          intro i G l8 hi hi2 hi3 h5
          refine x_wp_ok ok76 [7, 37] 4 ?_
          refine And.intro (fun c => ?_) (fun c => ?_)
          · have c : nI s < nI i := c
            rw [nI_ltI (by omega) (by omega)] at c
            have e := ih (k + 1) G (y_pV (v 9 k 0) (y_co k) T) (some (.int (nI (v 9 k 0)))) (some (.long (lN (y_co k)))) (some (.int (nI i))) l8 (by omega) ⟨h5.1, fun j hj => by rw [h5.2 j hj]; dsimp only; rw [if_pos (by omega)]⟩ (y_pV_le l9 h3) (fun j hj => by
              have e1 := y_X_p (co := y_co k) (V := y_pV (v 9 k 0) (y_co k) T) l9 h3 (y_pV_eq l9) j j (Nat.le_refl _)
              have e2 := y_T_X (w := v_w v) (a := fun _ => 999) (m := k) (b := j) (fun i hi => v_w_1 hB i (by omega)) (by omega) (by omega) (fun s' hs' => h4 s' (by omega)) e1
              refine y_T_cg (fun i hi q hq => ?_) e2
              have h6 : q * 1 ≤ q * v_w v i := Nat.mul_le_mul_left q (v_w_1 hB i (by omega))
              unfold y_av
              by_cases e : i = k
              · rw [if_pos e]
                omega
              · rw [if_neg e])
            rw [nI_succ k] at e
            exact e
          · have c : ¬ nI s < nI i := c
            rw [nI_ltI (by omega) (by omega)] at c
            have g1 : G 100 (i - v 9 k 0) = lN (y_pV (v 9 k 0) (y_co k) T (i - v 9 k 0)) := by rw [h5.2 _ (by omega)]; dsimp only; rw [if_pos (by omega)]
            have g2 : G 100 i = lN (T i) := by rw [h5.2 _ (by omega)]; dsimp only; rw [if_neg (by omega)]
            have b1 := y_pV_le (co := y_co k) l9 h3 (i - v 9 k 0)
            have b2 := h3 i
            have eV := y_pV_eq (co := y_co k) (T := T) l9 i
            rw [if_pos hi2] at eV
            refine And.intro (by show x_ix (nI i - nI (v 9 k 0)) 1000; rw [pk_sub (by omega)]; exact x_ix_nI (by omega) (by omega)) ?_
            rw [pk_sub (by omega), nI_clamp (by omega)]
            refine And.intro (x_ix_nI (by omega) (by omega)) ?_
            rw [nI_clamp (by omega)]
            refine And.intro (fun c2 => ?_) (fun c2 => ?_)
            · have c2 : 0 ≤ lg_cmp (G 100 (i - v 9 k 0) + lN (y_co k)) (G 100 i) := c2
              rw [x_lg_ge, g1, g2, lN_add, pk_lLE (by omega) (by omega)] at c2
              rw [Nat.min_eq_left c2] at eV
              have e := ih' (i + 1) G (some (.long (G 100 (i - v 9 k 0) + lN (y_co k)))) (by omega) (by omega) (by omega) ⟨h5.1, fun j hj => by
                rw [h5.2 j hj]
                congr 1
                dsimp only
                by_cases hj : j = i
                · subst hj
                  rw [if_neg (by omega), if_pos (by omega), eV]
                · by_cases hc : j < i
                  · rw [if_pos hc, if_pos (by omega)]
                  · rw [if_neg hc, if_neg (by omega)]⟩
              rw [nI_succ i] at e
              exact e
            · have c2 : ¬ 0 ≤ lg_cmp (G 100 (i - v 9 k 0) + lN (y_co k)) (G 100 i) := c2
              rw [x_lg_ge, g1, g2, lN_add, pk_lLE (by omega) (by omega)] at c2
              rw [Nat.min_eq_right (by omega)] at eV
              refine And.intro (x_ix_nI (by omega) (by omega)) ?_
              rw [nI_clamp (by omega)]
              have e := ih' (i + 1) (x_up G 100 i (G 100 (i - v 9 k 0) + lN (y_co k))) (some (.long (G 100 (i - v 9 k 0) + lN (y_co k)))) (by omega) (by omega) (by omega) ⟨fun k hk => by rw [x_up_k hk]; exact h5.1 k hk, fun j hj => by
                by_cases hj1 : j = i
                · subst hj1
                  dsimp only
                  rw [x_up_s, if_pos (by omega), g1, lN_add, eV]
                · rw [x_up_j hj1, h5.2 j hj]
                  congr 1
                  dsimp only
                  by_cases hc : j < i
                  · rw [if_pos hc, if_pos (by omega)]
                  · rw [if_neg hc, if_neg (by omega)]⟩
              rw [nI_succ i] at e
              exact e
      refine x_wp_ok ok76 [7, 37] 4 ?_
      refine And.intro (fun c => ?_) (fun c => ?_)
      · have c : f 22 0 ≤ nI k := c
        rw [h0, nI_leI (by omega) (by omega)] at c
        omega
      · refine And.intro (x_ix_nI (by omega) (by omega)) ?_
        rw [nI_clamp (by omega)]
        refine Exists.intro _ (And.intro (c_costOf (show k < 4 by omega)) (And.intro (And.intro (Nat.zero_le _) (Nat.zero_le _)) (fun q h' hpo => ?_)))
        obtain ⟨rfl, rfl⟩ := hpo
        have e := inner 1000 (v 9 k 0) G l8 (by omega) (Nat.le_refl _) (by omega) ⟨h2.1, fun j hj => by
          rw [h2.2 j hj]
          congr 1
          dsimp only
          by_cases hc : j < v 9 k 0
          · rw [if_pos hc, y_pV_eq l9 j, if_neg (by omega)]
          · rw [if_neg hc]⟩
        rw [← hw] at e
        exact e
  refine x_Ct_w (by decide) (Nat.le_of_ble_eq_true rfl) ok76 [7, 37] 4 ?_
  refine Exists.intro _ (And.intro (c_beginWays hs) (And.intro (And.intro (Nat.zero_le _) (Nat.zero_le _)) (fun q h' hpo => ?_)))
  obtain ⟨rfl, G, rfl, hG⟩ := hpo
  exact loop (v 0 0 0) 0 G y_T0 none none none none (Nat.zero_add _) hG (fun j => by unfold y_T0; split <;> omega) (fun j hj => y_T_0 _ _ j)
end C34
