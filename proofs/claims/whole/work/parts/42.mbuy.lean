section C42
variable {f : Nat → Nat → Int32} {g : Nat → Nat → Int64} {r t : Nat} {ρ : Nat → Nat → Option Nat} {dm : List Nat} {n d N : Nat} {v : xV} {h : xH}
theorem x_ML_F {F : Nat → Nat → Int32} (hF : ∀ k, k ≠ 509 → k ≠ 510 → F k = f k) (hM : v_M (f 501) 0 v) : x_ML f F v := ⟨by rw [hF 501 (by decide) (by decide)]; exact hM, fun j _ => by rw [hF 501 (by decide) (by decide)], by rw [hF 501 (by decide) (by decide)], fun k _ h2 h3 => hF k h2 h3⟩
def x_PB (f : Nat → Nat → Int32) (g : Nat → Nat → Int64) (ρ : Nat → Nat → Option Nat) (dm : List Nat) (n : Nat) (v : xV) (o : Option (Int32 × xV)) (c : Nat → Nat) : Option Value → xH → Prop := fun q h' => ∃ F, h' = (F, g, ρ, dm, n) ∧ q = some (.int (x_oB o)) ∧ x_ML f F (x_oV v o) ∧ (o ≠ none → ∀ k, k < v 0 0 0 → F 510 k = nI (c k))
theorem m_buys {p i m : Nat} (hM : v_M (f 501) 0 v) (hB : v_B v) (hp : p < v 2 0 0) (hi : i < v 1 0 0) (hm : m ≤ 999) : x_Ct 253 (d + 4) [.ref 500, .int (nI p), .int (nI i), .int (nI m)] (f, g, x_HR r t, dm, n) (x_PB f g (x_HR r t) dm n v (s_buy v p i m) (v_vec v p (v_S v i m))) := by
  have bK := v_B_K hB
  have bG := v_B_G hB
  have bP := v_B_P hB
  have o0 : v_ok v 0 0 0 := ⟨rfl, rfl⟩
  have h0 : f 501 0 = nI (v 0 0 0) := v_M_at hM o0
  have b0 : v 0 0 0 ≤ 4 := (hB.1 0 0 0 o0).2
  have o11 : v_ok v 11 i 0 := show i < v 1 0 0 ∧ 0 = 0 from ⟨by omega, rfl⟩
  have h11 : f 501 (17 + 2 * i) = nI (v 11 i 0) := v_M_at hM o11
  have b11 : v 11 i 0 ≤ 9999 := (hB.1 11 i 0 o11).2
  have o15 : v_ok v 15 p i := show 15 = 15 ∧ p < v 2 0 0 ∧ i < v 1 0 0 from ⟨rfl, by omega, by omega⟩
  have h15 : f 501 (35 + 14 * p + i) = nI (v 15 p i) := v_M_at hM o15
  have b15 : v 15 p i ≤ 9999 := (hB.1 15 p i o15).2
  have hS := v_S_lt hB hi (show m ≤ 9999 by omega)
  have eS := v_S_l (v := v) (i := i) (show m ≤ 9999 by omega)
  have no : v_cb v p i m = false → ∀ F, (∀ k, k ≠ 509 → k ≠ 510 → F k = f k) → x_PB f g (x_HR r t) dm n v (s_buy v p i m) (v_vec v p (v_S v i m)) (some (.int 0)) (F, g, x_HR r t, dm, n) := by
    intro hcb F hF
    rw [show s_buy v p i m = none from if_neg (by rw [hcb]; decide)]
    exact ⟨F, rfl, rfl, x_ML_F hF hM, fun q => absurd rfl q⟩
  have ehas : nI (26 + 14 * p) + nI 9 + nI i = nI (35 + 14 * p + i) := by
    rw [nI_add, nI_add]
    congr 1
    omega
  have eg : nI (16 + 2 * i) + 1 = nI (17 + 2 * i) := by
    rw [nI_1]
    congr 1
    omega
  refine x_Ct_w (by decide) (Nat.le_of_ble_eq_true rfl) ok253 [66] 8 ?_
  refine Exists.intro _ (And.intro m_personRow (And.intro (And.intro (Nat.zero_le _) (Nat.zero_le _)) (fun q h' hpo => ?_)))
  obtain ⟨rfl, rfl⟩ := hpo
  refine Exists.intro _ (And.intro (m_priceOf hM hB hi) (And.intro (And.intro (Nat.zero_le _) (Nat.zero_le _)) (fun q h' hpo => ?_)))
  obtain ⟨rfl, rfl⟩ := hpo
  refine Exists.intro _ (And.intro m_goodRow (And.intro (And.intro (Nat.zero_le _) (Nat.zero_le _)) (fun q h' hpo => ?_)))
  obtain ⟨rfl, rfl⟩ := hpo
  refine And.intro (by show x_ix (nI (16 + 2 * i) + 1) 3168; rw [eg]; exact x_ix_nI (by omega) (by omega)) ?_
  refine And.intro (fun c => ?_) (fun c => ?_)
  · have c : f 501 (nI (16 + 2 * i) + 1).toNatClampNeg < nI m := c
    rw [eg, nI_clamp (by omega), h11, nI_ltI (by omega) (by omega)] at c
    refine And.intro ?_ ⟨Or.inl rfl, Nat.le_refl _, Nat.le_refl _⟩
    exact no (by simp only [v_cb, decide_eq_false (show ¬ m ≤ v 11 i 0 by omega), Bool.false_and]) f (fun _ _ _ => rfl)
  · have c : ¬ f 501 (nI (16 + 2 * i) + 1).toNatClampNeg < nI m := c
    rw [eg, nI_clamp (by omega), h11, nI_ltI (by omega) (by omega)] at c
    refine And.intro (by show x_ix (nI (26 + 14 * p) + nI 9 + nI i) 3168; rw [ehas]; exact x_ix_nI (by omega) (by omega)) ?_
    refine And.intro (fun c2 => ?_) (fun c2 => ?_)
    · have c2 : nI 9999 < f 501 (nI (26 + 14 * p) + nI 9 + nI i).toNatClampNeg + nI m := c2
      rw [ehas, nI_clamp (by omega), h15, nI_add, nI_ltI (by omega) (by omega)] at c2
      refine And.intro ?_ ⟨Or.inl rfl, Nat.le_refl _, Nat.le_refl _⟩
      exact no (by simp only [v_cb, decide_eq_false (show ¬ v 15 p i + m ≤ 9999 by omega), Bool.false_and, Bool.and_false]) f (fun _ _ _ => rfl)
    · have c2 : ¬ nI 9999 < f 501 (nI (26 + 14 * p) + nI 9 + nI i).toNatClampNeg + nI m := c2
      rw [ehas, nI_clamp (by omega), h15, nI_add, nI_ltI (by omega) (by omega)] at c2
      have lp := m_laysPaying (d := d) (f := f) (g := g) (r := r) (t := t) (dm := dm) (n := n) (S := v_S v i m) hM hB (Or.inr ⟨p, rfl, hp, rfl⟩) (by omega)
      rw [← eS] at lp
      refine Exists.intro _ (And.intro lp (And.intro (And.intro (Nat.zero_le _) (Nat.zero_le _)) (fun q h' hpo => ?_)))
      obtain ⟨F, rfl, hF, ⟨rfl, s1, s2, s3⟩ | ⟨rfl, s1⟩⟩ := hpo
      · have hcb : v_cb v p i m = true := by
          simp only [v_cb, Bool.and_eq_true, decide_eq_true_eq]
          exact ⟨by omega, by omega, s1, s2⟩
        rw [show s_buy v p i m = some (nI (v_few v p (v_S v i m)), d_buy v p i m) from if_pos hcb]
        refine And.intro (fun _ => ?_) (fun c => absurd c (by decide))
        obtain ⟨vec, hvec⟩ : ∃ vec, vec = v_vec v p (v_S v i m) := ⟨_, rfl⟩
        obtain ⟨y1, y2, y3, y4, y5⟩ := y_way_ok (v_w_1 hB) bK s1 s2
        have y4 : ∀ k, k < v 0 0 0 → vec k ≤ v 13 p k := by rw [hvec]; exact y4
        have s3 : ∀ k, k < v 0 0 0 → F 510 k = nI (vec k) := by rw [hvec]; exact s3
        rw [← hvec]
        have hF0 := x_ML_F hF hM
        have loop : ∀ m' k F', k + m' = v 0 0 0 → x_ML f F' (d_sub v p vec k) → F' 510 = F 510 → x_J 253 (d + 4) (x_PB f g (x_HR r t) dm n v (some (nI (v_few v p (v_S v i m)), d_buy v p i m)) vec) 66 [some (.ref 500), some (.int (nI p)), some (.int (nI i)), some (.int (nI m)), some (.int (nI (26 + 14 * p) + nI 9 + nI i)), some (.long ((nI m).toInt64 * lN (v 10 i 0 * v 7 0 0))), none, some (.int (nI k))] [] (F', g, x_HR r t, dm, n) 0 0 := by
          intro m'
          induction m' with
          | zero =>
            intro k F' hk hF' hF5
            obtain rfl : k = v 0 0 0 := by omega
            have h0' : F' 501 0 = nI (v 0 0 0) := (v_M_at hF'.1 (c := 0) (i := 0) (j := 0) ⟨rfl, rfl⟩).trans (by rw [d_sub_c (by decide)])
            have h17 : F' 501 10 = nI (min 999999999 (v 17 0 0)) := hF'.1.2.2.trans (by rw [d_sub_c (by decide)])
            refine x_wp_ok ok253 [66] 8 ?_
            refine And.intro (x_ix_nI (j := 0) (by decide) (by decide)) ?_
            refine And.intro (fun cc => ?_) (fun cc => ?_)
            · have at1 := m_addsTo (d := d + 2) (f := F') (g := g) (r := r) (t := t) (dm := dm) (n := n) (W := 10) (A := v 17 0 0) (m := v_S v i m) (y := nI (v_S v i m)) (Or.inr rfl) h17 rfl (by omega)
              have at2 : x_V 250 (d + 3) [.ref 500, .int (nI 10), .int ((nI m).toInt64 * lN (v 10 i 0 * v 7 0 0)).toInt32] (F', g, x_HR r t, dm, n) (.int (nI (v_S v i m))) (x_up F' 501 10 (nI (min 999999999 (v 17 0 0 + v_S v i m))), g, x_HR r t, dm, n) := by rw [eS, lN_i]; exact at1
              refine Exists.intro _ (And.intro at2 (And.intro (And.intro (Nat.zero_le _) (Nat.zero_le _)) (fun q h' hpo => ?_)))
              obtain ⟨rfl, rfl⟩ := hpo
              refine Exists.intro _ (And.intro m_goodRow (And.intro (And.intro (Nat.zero_le _) (Nat.zero_le _)) (fun q h' hpo => ?_)))
              obtain ⟨rfl, rfl⟩ := hpo
              refine And.intro (by show x_ix (nI (16 + 2 * i) + 1) 3168; rw [eg]; exact x_ix_nI (by omega) (by omega)) ?_
              refine And.intro (by show x_ix (nI (16 + 2 * i) + 1) 3168; rw [eg]; exact x_ix_nI (by omega) (by omega)) ?_
              refine And.intro (by show x_ix (nI (26 + 14 * p) + nI 9 + nI i) 3168; rw [ehas]; exact x_ix_nI (by omega) (by omega)) ?_
              refine And.intro (by show x_ix (nI (26 + 14 * p) + nI 9 + nI i) 3168; rw [ehas]; exact x_ix_nI (by omega) (by omega)) ?_
              refine And.intro ?_ ⟨Or.inr rfl, Nat.le_refl _, Nat.le_refl _⟩
              have ok0 : d_sub v p vec (v 0 0 0) 0 0 0 = v 0 0 0 := d_sub_c (by decide)
              have ok1 : d_sub v p vec (v 0 0 0) 1 0 0 = v 1 0 0 := d_sub_c (by decide)
              have ok2 : d_sub v p vec (v 0 0 0) 2 0 0 = v 2 0 0 := d_sub_c (by decide)
              have e1 := x_ML_17 hF' (by omega) (by omega) (by omega) (v 17 0 0 + v_S v i m)
              have e2 := x_ML_set e1 (by rw [v_set_c (by decide)]; omega) (by rw [v_set_c (by decide)]; omega) (by rw [v_set_c (by decide)]; omega) (c := 11) (i := i) (j := 0) (x := v 11 i 0 - m) ((v_ok_set (by decide)).mpr (show i < d_sub v p vec (v 0 0 0) 1 0 0 ∧ 0 = 0 from ⟨by omega, rfl⟩)) (by decide)
              have e3 := x_ML_set e2 (by rw [v_set_c (by decide), v_set_c (by decide)]; omega) (by rw [v_set_c (by decide), v_set_c (by decide)]; omega) (by rw [v_set_c (by decide), v_set_c (by decide)]; omega) (c := 15) (i := p) (j := i) (x := v 15 p i + m) ((v_ok_set (by decide)).mpr ((v_ok_set (by decide)).mpr (show 15 = 15 ∧ p < d_sub v p vec (v 0 0 0) 2 0 0 ∧ i < d_sub v p vec (v 0 0 0) 1 0 0 from ⟨rfl, by omega, by omega⟩))) (by decide)
              have ev : v_set (v_set (v_set (d_sub v p vec (v 0 0 0)) 17 0 0 (v 17 0 0 + v_S v i m)) 11 i 0 (v 11 i 0 - m)) 15 p i (v 15 p i + m) = d_buy v p i m := by
                rw [← d_sub_set (by decide), ← d_sub_set (by decide), ← d_sub_set (by decide), hvec]
                rfl
              rw [ev] at e3
              have g11 : x_up F' 501 10 (nI (min 999999999 (v 17 0 0 + v_S v i m))) 501 (17 + 2 * i) = nI (v 11 i 0) := by
                rw [x_up_j (by omega)]
                exact (v_M_at hF'.1 (c := 11) (i := i) (j := 0) (show i < d_sub v p vec (v 0 0 0) 1 0 0 ∧ 0 = 0 from ⟨by omega, rfl⟩)).trans (by rw [d_sub_c (by decide)])
              have g15 : x_up (x_up F' 501 10 (nI (min 999999999 (v 17 0 0 + v_S v i m)))) 501 (17 + 2 * i) (nI (v 11 i 0 - m)) 501 (35 + 14 * p + i) = nI (v 15 p i) := by
                rw [x_up_j (by omega), x_up_j (by omega)]
                exact (v_M_at hF'.1 (c := 15) (i := p) (j := i) (show 15 = 15 ∧ p < d_sub v p vec (v 0 0 0) 2 0 0 ∧ i < d_sub v p vec (v 0 0 0) 1 0 0 from ⟨rfl, by omega, by omega⟩)).trans (by rw [d_sub_c (by decide)])
              have e4 : x_PB f g (x_HR r t) dm n v (some (nI (v_few v p (v_S v i m)), d_buy v p i m)) vec (some (.int 1)) (x_up (x_up (x_up F' 501 10 (nI (min 999999999 (v 17 0 0 + v_S v i m)))) 501 (17 + 2 * i) (nI (v 11 i 0 - m))) 501 (35 + 14 * p + i) (nI (v 15 p i + m)), g, x_HR r t, dm, n) := by
                refine ⟨_, rfl, rfl, e3, fun _ k hk => ?_⟩
                rw [x_up_k (by decide), x_up_k (by decide), x_up_k (by decide), hF5]
                exact s3 k hk
              rw [← nI_add (v 15 p i), ← g15, ← nI_clamp (show 35 + 14 * p + i < 2 ^ 31 by omega), ← ehas, ← pk_sub (show m ≤ v 11 i 0 by omega), ← g11, ← nI_clamp (show 17 + 2 * i < 2 ^ 31 by omega), ← eg] at e4
              exact e4
            · have cc : ¬ F' 501 0 ≤ nI (v 0 0 0) := cc
              rw [h0', nI_leI (by omega) (by omega)] at cc
              omega
          | succ m' ih =>
            intro k F' hk hF' hF5
            have ok0 : d_sub v p vec k 0 0 0 = v 0 0 0 := d_sub_c (by decide)
            have ok1 : d_sub v p vec k 1 0 0 = v 1 0 0 := d_sub_c (by decide)
            have ok2 : d_sub v p vec k 2 0 0 = v 2 0 0 := d_sub_c (by decide)
            have o13 : v_ok (d_sub v p vec k) 13 p k := show p < d_sub v p vec k 2 0 0 ∧ k < d_sub v p vec k 0 0 0 by omega
            have h0' : F' 501 0 = nI (v 0 0 0) := (v_M_at hF'.1 (c := 0) (i := 0) (j := 0) ⟨rfl, rfl⟩).trans (by rw [ok0])
            have h13 : F' 501 (27 + 14 * p + k) = nI (v 13 p k) := (v_M_at hF'.1 o13).trans (by rw [d_sub_at, if_neg (by omega)])
            have hy := y4 k (by omega)
            refine x_wp_ok ok253 [66] 8 ?_
            refine And.intro (x_ix_nI (j := 0) (by decide) (by decide)) ?_
            refine And.intro (fun cc => ?_) (fun cc => ?_)
            · have cc : F' 501 0 ≤ nI k := cc
              rw [h0', nI_leI (by omega) (by omega)] at cc
              omega
            · refine Exists.intro _ (And.intro m_wholeAt (And.intro (And.intro (Nat.zero_le _) (Nat.zero_le _)) (fun q h' hpo => ?_)))
              obtain ⟨rfl, rfl⟩ := hpo
              refine And.intro (x_ix_nI (by omega) (by omega)) ?_
              rw [nI_clamp (by omega)]
              refine And.intro (x_ix_nI (by omega) (by omega)) ?_
              rw [nI_clamp (by omega)]
              refine And.intro (x_ix_nI (by omega) (by omega)) ?_
              rw [nI_clamp (by omega)]
              have e := ih (k + 1) _ (by omega) (x_ML_set hF' (by omega) (by omega) (by omega) (x := v 13 p k - vec k) o13 (by decide)) (by rw [x_up_k (by decide)]; exact hF5)
              rw [← pk_sub hy, ← s3 k (by omega), ← hF5, ← h13, nI_succ k] at e
              exact e
        exact loop (v 0 0 0) 0 F (Nat.zero_add _) hF0 rfl
      · refine And.intro (fun c => absurd rfl c) (fun _ => ?_)
        refine And.intro ?_ ⟨Or.inl rfl, Nat.le_refl _, Nat.le_refl _⟩
        refine no ?_ F hF
        rw [Bool.eq_false_iff]
        intro hq
        simp only [v_cb, Bool.and_eq_true, decide_eq_true_eq] at hq
        exact s1 hq.2.2
theorem m_sells {p i m : Nat} (hM : v_M (f 501) 0 v) (hB : v_B v) (hp : p < v 2 0 0) (hi : i < v 1 0 0) (hm : m ≤ 999) : x_Ct 255 (d + 4) [.ref 500, .int (nI p), .int (nI i), .int (nI m)] (f, g, x_HR r t, dm, n) (x_PB f g (x_HR r t) dm n v (s_sell v p i m) (v_vecP v (v_S v i m))) := by
  have bK := v_B_K hB
  have bG := v_B_G hB
  have bP := v_B_P hB
  have o0 : v_ok v 0 0 0 := ⟨rfl, rfl⟩
  have h0 : f 501 0 = nI (v 0 0 0) := v_M_at hM o0
  have b0 : v 0 0 0 ≤ 4 := (hB.1 0 0 0 o0).2
  have o11 : v_ok v 11 i 0 := show i < v 1 0 0 ∧ 0 = 0 from ⟨by omega, rfl⟩
  have h11 : f 501 (17 + 2 * i) = nI (v 11 i 0) := v_M_at hM o11
  have b11 : v 11 i 0 ≤ 9999 := (hB.1 11 i 0 o11).2
  have o15 : v_ok v 15 p i := show 15 = 15 ∧ p < v 2 0 0 ∧ i < v 1 0 0 from ⟨rfl, by omega, by omega⟩
  have h15 : f 501 (35 + 14 * p + i) = nI (v 15 p i) := v_M_at hM o15
  have b15 : v 15 p i ≤ 9999 := (hB.1 15 p i o15).2
  have hS := v_S_lt hB hi (show m ≤ 9999 by omega)
  have eS := v_S_l (v := v) (i := i) (show m ≤ 9999 by omega)
  have no : v_cs v p i m = false → ∀ F, (∀ k, k ≠ 509 → k ≠ 510 → F k = f k) → x_PB f g (x_HR r t) dm n v (s_sell v p i m) (v_vecP v (v_S v i m)) (some (.int 0)) (F, g, x_HR r t, dm, n) := by
    intro hcb F hF
    rw [show s_sell v p i m = none from if_neg (by rw [hcb]; decide)]
    exact ⟨F, rfl, rfl, x_ML_F hF hM, fun q => absurd rfl q⟩
  have ehas : nI (26 + 14 * p) + nI 9 + nI i = nI (35 + 14 * p + i) := by
    rw [nI_add, nI_add]
    congr 1
    omega
  have eg : nI (16 + 2 * i) + 1 = nI (17 + 2 * i) := by
    rw [nI_1]
    congr 1
    omega
  refine x_Ct_w (by decide) (Nat.le_of_ble_eq_true rfl) ok255 [66, 114] 8 ?_
  refine Exists.intro _ (And.intro m_personRow (And.intro (And.intro (Nat.zero_le _) (Nat.zero_le _)) (fun q h' hpo => ?_)))
  obtain ⟨rfl, rfl⟩ := hpo
  refine Exists.intro _ (And.intro (m_priceOf hM hB hi) (And.intro (And.intro (Nat.zero_le _) (Nat.zero_le _)) (fun q h' hpo => ?_)))
  obtain ⟨rfl, rfl⟩ := hpo
  refine And.intro (by show x_ix (nI (26 + 14 * p) + nI 9 + nI i) 3168; rw [ehas]; exact x_ix_nI (by omega) (by omega)) ?_
  refine And.intro (fun c => ?_) (fun c => ?_)
  · have c : f 501 (nI (26 + 14 * p) + nI 9 + nI i).toNatClampNeg < nI m := c
    rw [ehas, nI_clamp (by omega), h15, nI_ltI (by omega) (by omega)] at c
    refine And.intro ?_ ⟨Or.inl rfl, Nat.le_refl _, Nat.le_refl _⟩
    exact no (by simp only [v_cs, decide_eq_false (show ¬ m ≤ v 15 p i by omega), Bool.false_and]) f (fun _ _ _ => rfl)
  · have c : ¬ f 501 (nI (26 + 14 * p) + nI 9 + nI i).toNatClampNeg < nI m := c
    rw [ehas, nI_clamp (by omega), h15, nI_ltI (by omega) (by omega)] at c
    refine Exists.intro _ (And.intro m_goodRow (And.intro (And.intro (Nat.zero_le _) (Nat.zero_le _)) (fun q h' hpo => ?_)))
    obtain ⟨rfl, rfl⟩ := hpo
    refine And.intro (by show x_ix (nI (16 + 2 * i) + 1) 3168; rw [eg]; exact x_ix_nI (by omega) (by omega)) ?_
    refine And.intro (fun c2 => ?_) (fun c2 => ?_)
    · have c2 : nI 9999 < f 501 (nI (16 + 2 * i) + 1).toNatClampNeg + nI m := c2
      rw [eg, nI_clamp (by omega), h11, nI_add, nI_ltI (by omega) (by omega)] at c2
      refine And.intro ?_ ⟨Or.inl rfl, Nat.le_refl _, Nat.le_refl _⟩
      exact no (by simp only [v_cs, decide_eq_false (show ¬ v 11 i 0 + m ≤ 9999 by omega), Bool.false_and, Bool.and_false]) f (fun _ _ _ => rfl)
    · have c2 : ¬ nI 9999 < f 501 (nI (16 + 2 * i) + 1).toNatClampNeg + nI m := c2
      rw [eg, nI_clamp (by omega), h11, nI_add, nI_ltI (by omega) (by omega)] at c2
      have lp := m_laysPaying (d := d) (f := f) (g := g) (r := r) (t := t) (dm := dm) (n := n) (S := v_S v i m) hM hB (Or.inl ⟨rfl, rfl⟩) (by omega)
      rw [← eS] at lp
      refine Exists.intro _ (And.intro lp (And.intro (And.intro (Nat.zero_le _) (Nat.zero_le _)) (fun q h' hpo => ?_)))
      obtain ⟨F, rfl, hF, ⟨rfl, s1, s2, s3⟩ | ⟨rfl, s1⟩⟩ := hpo
      · refine And.intro (fun _ => ?_) (fun c => absurd c (by decide))
        obtain ⟨vec, hvec⟩ : ∃ vec, vec = v_vecP v (v_S v i m) := ⟨_, rfl⟩
        obtain ⟨y1, y2, y3, y4, y5⟩ := y_way_ok (v_w_1 hB) bK s1 s2
        have y5 : ∀ k, k < v 0 0 0 → vec k ≤ 999 := by rw [hvec]; exact y5
        have s3 : ∀ k, k < v 0 0 0 → F 510 k = nI (vec k) := by rw [hvec]; exact s3
        have hF0 := x_ML_F hF hM
        have add : (∀ k, k < v 0 0 0 → v 13 p k + vec k ≤ 9999) → ∀ m' k F', k + m' = v 0 0 0 → x_ML f F' (d_add v p vec k) → F' 510 = F 510 → x_J 255 (d + 4) (x_PB f g (x_HR r t) dm n v (s_sell v p i m) (v_vecP v (v_S v i m))) 114 [some (.ref 500), some (.int (nI p)), some (.int (nI i)), some (.int (nI m)), some (.int (nI (26 + 14 * p) + nI 9 + nI i)), some (.long ((nI m).toInt64 * lN (v 10 i 0 * v 7 0 0))), none, some (.int (nI k))] [] (F', g, x_HR r t, dm, n) 0 0 := by
          intro hroom
          have hcs : v_cs v p i m = true := by
            simp only [v_cs, Bool.and_eq_true, decide_eq_true_eq, v_rm, List.all_eq_true, List.mem_range]
            exact ⟨by omega, by omega, s1, s2, by rw [← hvec]; exact hroom⟩
          rw [show s_sell v p i m = some (nI (v_fewP v (v_S v i m)), d_sell v p i m) from if_pos hcs, ← hvec]
          intro m'
          induction m' with
          | zero =>
            intro k F' hk hF' hF5
            obtain rfl : k = v 0 0 0 := by omega
            have h0' : F' 501 0 = nI (v 0 0 0) := (v_M_at hF'.1 (c := 0) (i := 0) (j := 0) ⟨rfl, rfl⟩).trans (by rw [d_add_c (by decide)])
            have h16 : F' 501 9 = nI (min 999999999 (v 16 0 0)) := hF'.1.2.1.trans (by rw [d_add_c (by decide)])
            refine x_wp_ok ok255 [66, 114] 8 ?_
            refine And.intro (x_ix_nI (j := 0) (by decide) (by decide)) ?_
            refine And.intro (fun cc => ?_) (fun cc => ?_)
            · have at1 := m_addsTo (d := d + 2) (f := F') (g := g) (r := r) (t := t) (dm := dm) (n := n) (W := 9) (A := v 16 0 0) (m := v_S v i m) (y := nI (v_S v i m)) (Or.inl rfl) h16 rfl (by omega)
              have at2 : x_V 250 (d + 3) [.ref 500, .int (nI 9), .int ((nI m).toInt64 * lN (v 10 i 0 * v 7 0 0)).toInt32] (F', g, x_HR r t, dm, n) (.int (nI (v_S v i m))) (x_up F' 501 9 (nI (min 999999999 (v 16 0 0 + v_S v i m))), g, x_HR r t, dm, n) := by rw [eS, lN_i]; exact at1
              refine Exists.intro _ (And.intro at2 (And.intro (And.intro (Nat.zero_le _) (Nat.zero_le _)) (fun q h' hpo => ?_)))
              obtain ⟨rfl, rfl⟩ := hpo
              refine Exists.intro _ (And.intro m_goodRow (And.intro (And.intro (Nat.zero_le _) (Nat.zero_le _)) (fun q h' hpo => ?_)))
              obtain ⟨rfl, rfl⟩ := hpo
              refine And.intro (by show x_ix (nI (16 + 2 * i) + 1) 3168; rw [eg]; exact x_ix_nI (by omega) (by omega)) ?_
              refine And.intro (by show x_ix (nI (16 + 2 * i) + 1) 3168; rw [eg]; exact x_ix_nI (by omega) (by omega)) ?_
              refine And.intro (by show x_ix (nI (26 + 14 * p) + nI 9 + nI i) 3168; rw [ehas]; exact x_ix_nI (by omega) (by omega)) ?_
              refine And.intro (by show x_ix (nI (26 + 14 * p) + nI 9 + nI i) 3168; rw [ehas]; exact x_ix_nI (by omega) (by omega)) ?_
              refine And.intro ?_ ⟨Or.inr rfl, Nat.le_refl _, Nat.le_refl _⟩
              have ok0 : d_add v p vec (v 0 0 0) 0 0 0 = v 0 0 0 := d_add_c (by decide)
              have ok1 : d_add v p vec (v 0 0 0) 1 0 0 = v 1 0 0 := d_add_c (by decide)
              have ok2 : d_add v p vec (v 0 0 0) 2 0 0 = v 2 0 0 := d_add_c (by decide)
              have e1 := x_ML_16 hF' (by omega) (by omega) (by omega) (v 16 0 0 + v_S v i m)
              have e2 := x_ML_set e1 (by rw [v_set_c (by decide)]; omega) (by rw [v_set_c (by decide)]; omega) (by rw [v_set_c (by decide)]; omega) (c := 11) (i := i) (j := 0) (x := v 11 i 0 + m) ((v_ok_set (by decide)).mpr (show i < d_add v p vec (v 0 0 0) 1 0 0 ∧ 0 = 0 from ⟨by omega, rfl⟩)) (by decide)
              have e3 := x_ML_set e2 (by rw [v_set_c (by decide), v_set_c (by decide)]; omega) (by rw [v_set_c (by decide), v_set_c (by decide)]; omega) (by rw [v_set_c (by decide), v_set_c (by decide)]; omega) (c := 15) (i := p) (j := i) (x := v 15 p i - m) ((v_ok_set (by decide)).mpr ((v_ok_set (by decide)).mpr (show 15 = 15 ∧ p < d_add v p vec (v 0 0 0) 2 0 0 ∧ i < d_add v p vec (v 0 0 0) 1 0 0 from ⟨rfl, by omega, by omega⟩))) (by decide)
              have ev : v_set (v_set (v_set (d_add v p vec (v 0 0 0)) 16 0 0 (v 16 0 0 + v_S v i m)) 11 i 0 (v 11 i 0 + m)) 15 p i (v 15 p i - m) = d_sell v p i m := by
                rw [← d_add_set (by decide), ← d_add_set (by decide), ← d_add_set (by decide), hvec]
                rfl
              rw [ev] at e3
              have g11 : x_up F' 501 9 (nI (min 999999999 (v 16 0 0 + v_S v i m))) 501 (17 + 2 * i) = nI (v 11 i 0) := by
                rw [x_up_j (by omega)]
                exact (v_M_at hF'.1 (c := 11) (i := i) (j := 0) (show i < d_add v p vec (v 0 0 0) 1 0 0 ∧ 0 = 0 from ⟨by omega, rfl⟩)).trans (by rw [d_add_c (by decide)])
              have g15 : x_up (x_up F' 501 9 (nI (min 999999999 (v 16 0 0 + v_S v i m)))) 501 (17 + 2 * i) (nI (v 11 i 0 + m)) 501 (35 + 14 * p + i) = nI (v 15 p i) := by
                rw [x_up_j (by omega), x_up_j (by omega)]
                exact (v_M_at hF'.1 (c := 15) (i := p) (j := i) (show 15 = 15 ∧ p < d_add v p vec (v 0 0 0) 2 0 0 ∧ i < d_add v p vec (v 0 0 0) 1 0 0 from ⟨rfl, by omega, by omega⟩)).trans (by rw [d_add_c (by decide)])
              have e4 : x_PB f g (x_HR r t) dm n v (some (nI (v_fewP v (v_S v i m)), d_sell v p i m)) vec (some (.int 1)) (x_up (x_up (x_up F' 501 9 (nI (min 999999999 (v 16 0 0 + v_S v i m)))) 501 (17 + 2 * i) (nI (v 11 i 0 + m))) 501 (35 + 14 * p + i) (nI (v 15 p i - m)), g, x_HR r t, dm, n) := by
                refine ⟨_, rfl, rfl, e3, fun _ k hk => ?_⟩
                rw [x_up_k (by decide), x_up_k (by decide), x_up_k (by decide), hF5]
                exact s3 k hk
              rw [← pk_sub (show m ≤ v 15 p i by omega), ← g15, ← nI_clamp (show 35 + 14 * p + i < 2 ^ 31 by omega), ← ehas, ← nI_add (v 11 i 0), ← g11, ← nI_clamp (show 17 + 2 * i < 2 ^ 31 by omega), ← eg] at e4
              exact e4
            · have cc : ¬ F' 501 0 ≤ nI (v 0 0 0) := cc
              rw [h0', nI_leI (by omega) (by omega)] at cc
              omega
          | succ m' ih =>
            intro k F' hk hF' hF5
            have ok0 : d_add v p vec k 0 0 0 = v 0 0 0 := d_add_c (by decide)
            have ok1 : d_add v p vec k 1 0 0 = v 1 0 0 := d_add_c (by decide)
            have ok2 : d_add v p vec k 2 0 0 = v 2 0 0 := d_add_c (by decide)
            have o13 : v_ok (d_add v p vec k) 13 p k := show p < d_add v p vec k 2 0 0 ∧ k < d_add v p vec k 0 0 0 by omega
            have h0' : F' 501 0 = nI (v 0 0 0) := (v_M_at hF'.1 (c := 0) (i := 0) (j := 0) ⟨rfl, rfl⟩).trans (by rw [ok0])
            have h13 : F' 501 (27 + 14 * p + k) = nI (v 13 p k) := (v_M_at hF'.1 o13).trans (by rw [d_add_at, if_neg (by omega)])
            refine x_wp_ok ok255 [66, 114] 8 ?_
            refine And.intro (x_ix_nI (j := 0) (by decide) (by decide)) ?_
            refine And.intro (fun cc => ?_) (fun cc => ?_)
            · have cc : F' 501 0 ≤ nI k := cc
              rw [h0', nI_leI (by omega) (by omega)] at cc
              omega
            · refine Exists.intro _ (And.intro m_wholeAt (And.intro (And.intro (Nat.zero_le _) (Nat.zero_le _)) (fun q h' hpo => ?_)))
              obtain ⟨rfl, rfl⟩ := hpo
              refine And.intro (x_ix_nI (by omega) (by omega)) ?_
              rw [nI_clamp (by omega)]
              refine And.intro (x_ix_nI (by omega) (by omega)) ?_
              rw [nI_clamp (by omega)]
              refine And.intro (x_ix_nI (by omega) (by omega)) ?_
              rw [nI_clamp (by omega)]
              have e := ih (k + 1) _ (by omega) (x_ML_set hF' (by omega) (by omega) (by omega) (x := v 13 p k + vec k) o13 (by decide)) (by rw [x_up_k (by decide)]; exact hF5)
              rw [← nI_add (v 13 p k), ← s3 k (by omega), ← hF5, ← h13, nI_succ k] at e
              exact e
        have look : ∀ m' k, k + m' = v 0 0 0 → (∀ j, j < k → v 13 p j + vec j ≤ 9999) → x_J 255 (d + 4) (x_PB f g (x_HR r t) dm n v (s_sell v p i m) (v_vecP v (v_S v i m))) 66 [some (.ref 500), some (.int (nI p)), some (.int (nI i)), some (.int (nI m)), some (.int (nI (26 + 14 * p) + nI 9 + nI i)), some (.long ((nI m).toInt64 * lN (v 10 i 0 * v 7 0 0))), none, some (.int (nI k))] [] (F, g, x_HR r t, dm, n) 0 0 := by
          have h0' : F 501 0 = nI (v 0 0 0) := v_M_at hF0.1 (c := 0) (i := 0) (j := 0) ⟨rfl, rfl⟩
          intro m'
          induction m' with
          | zero =>
            intro k hk hj
            obtain rfl : k = v 0 0 0 := by omega
            refine x_wp_ok ok255 [66, 114] 8 ?_
            refine And.intro (x_ix_nI (j := 0) (by decide) (by decide)) ?_
            refine And.intro (fun cc => ?_) (fun cc => ?_)
            · exact add hj (v 0 0 0) 0 F (Nat.zero_add _) hF0 rfl
            · have cc : ¬ F 501 0 ≤ nI (v 0 0 0) := cc
              rw [h0', nI_leI (by omega) (by omega)] at cc
              omega
          | succ m' ih =>
            intro k hk hj
            have o13 : v_ok v 13 p k := show p < v 2 0 0 ∧ k < v 0 0 0 by omega
            have h13 : F 501 (27 + 14 * p + k) = nI (v 13 p k) := v_M_at hF0.1 o13
            have b13 : v 13 p k ≤ 9999 := (hB.1 13 p k o13).2
            have hy := y5 k (by omega)
            refine x_wp_ok ok255 [66, 114] 8 ?_
            refine And.intro (x_ix_nI (j := 0) (by decide) (by decide)) ?_
            refine And.intro (fun cc => ?_) (fun cc => ?_)
            · have cc : F 501 0 ≤ nI k := cc
              rw [h0', nI_leI (by omega) (by omega)] at cc
              omega
            · refine Exists.intro _ (And.intro m_wholeAt (And.intro (And.intro (Nat.zero_le _) (Nat.zero_le _)) (fun q h' hpo => ?_)))
              obtain ⟨rfl, rfl⟩ := hpo
              refine And.intro (x_ix_nI (by omega) (by omega)) ?_
              rw [nI_clamp (by omega)]
              refine And.intro (x_ix_nI (by omega) (by omega)) ?_
              rw [nI_clamp (by omega)]
              refine And.intro (fun c3 => ?_) (fun c3 => ?_)
              · have c3 : F 501 (27 + 14 * p + k) + F 510 k ≤ nI 9999 := c3
                rw [h13, s3 k (by omega), nI_add, nI_leI (by omega) (by omega)] at c3
                have e := ih (k + 1) (by omega) (fun j hj2 => by
                  by_cases e : j = k
                  · subst e
                    exact c3
                  · exact hj j (by omega))
                rw [nI_succ k] at e
                exact e
              · have c3 : ¬ F 501 (27 + 14 * p + k) + F 510 k ≤ nI 9999 := c3
                rw [h13, s3 k (by omega), nI_add, nI_leI (by omega) (by omega)] at c3
                refine And.intro ?_ ⟨Or.inl rfl, Nat.le_refl _, Nat.le_refl _⟩
                refine no ?_ F hF
                have : v_rm v p (v_vecP v (v_S v i m)) = false := by
                  rw [Bool.eq_false_iff]
                  intro hq
                  simp only [v_rm, List.all_eq_true, List.mem_range, decide_eq_true_eq] at hq
                  have h9 := hq k (by omega)
                  rw [← hvec] at h9
                  omega
                simp only [v_cs, this, Bool.and_false]
        exact look (v 0 0 0) 0 (Nat.zero_add _) (fun j hj => by omega)
      · refine And.intro (fun c => absurd rfl c) (fun _ => ?_)
        refine And.intro ?_ ⟨Or.inl rfl, Nat.le_refl _, Nat.le_refl _⟩
        refine no ?_ F hF
        rw [Bool.eq_false_iff]
        intro hq
        simp only [v_cs, Bool.and_eq_true, decide_eq_true_eq] at hq
        exact s1 ⟨hq.2.2.1, hq.2.2.2.1⟩
end C42
