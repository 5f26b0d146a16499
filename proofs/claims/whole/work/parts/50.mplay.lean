def x_mv (l a b : Nat) : Nat := if l % 2 = 0 then a else b
theorem x_mv_2 (l a b : Nat) : x_mv (l + 1 + 1) a b = x_mv l a b := by
  unfold x_mv
  rw [show (l + 1 + 1) % 2 = l % 2 by omega]
section C50
variable {f : Nat → Nat → Int32} {g : Nat → Nat → Int64} {r t : Nat} {ρ : Nat → Nat → Option Nat} {dm : List Nat} {n d N : Nat} {v : xV} {h : xH}
/-- from one move to the next, over what happens at 209 -/
theorem m_play1 {T a b k l : Nat} {s : Int} {F : Nat → Nat → Int32} {P : Option Value → xH → Prop} (hT : T ≤ 3) (hl : l + (k + 1) = T) (hN : N + 5000 < 2 ^ 60) (hM : v_M (F 501) (2784 + 96 * l) v) (hBn : v_Bn (N + 1000 * l) v) (ha : a < v 2 0 0) (hb : b < v 2 0 0) (hs0 : F 514 l = iI s) (hs : -(99 * (l : Int)) ≤ s ∧ s ≤ 99 * (l : Int)) (hd : F 512 l = -1) (hc0 : F 513 l = 1000000) (step : (∀ j F3 w (val x : Int) l6, j ≤ v 1 0 0 → x_fr l F F3 → F3 512 l = nI j → F3 513 l = y_cm l s (y_gm (v_gain (v_lead k) v (x_mv l a b) (x_mv (l + 1) a b)) j) → (l = 0 → ∀ c, y_gm (v_gain (v_lead k) v (x_mv l a b) (x_mv (l + 1) a b)) j = some c → F3 500 31 = nI c.2) → v_M (F3 501) 0 w → v_Bn (N + 1000 * (l + 1)) w → a < w 2 0 0 → b < w 2 0 0 → w 1 0 0 = v 1 0 0 → 0 ≤ val → val ≤ 99 → x = val - v_lead k w (x_mv (l + 1) a b) (x_mv l a b) → (∀ F4 l5 l6, x_fr l F F4 → F4 512 l = nI j → F4 513 l = y_cm l s (y_gmS (y_gm (v_gain (v_lead k) v (x_mv l a b) (x_mv (l + 1) a b)) j) x j) → (l = 0 → ∀ c, y_gmS (y_gm (v_gain (v_lead k) v (x_mv l a b) (x_mv (l + 1) a b)) j) x j = some c → F4 500 31 = nI c.2) → x_J 306 (d + 6) P 50 [some (.ref 500), some (.int (nI a)), some (.int (nI b)), some (.int (nI T)), some (.int (nI l)), l5, l6] [] (F4, g, x_HR r t, dm, n) 0 0) → x_J 306 (d + 6) P 209 [some (.ref 500), some (.int (nI a)), some (.int (nI b)), some (.int (nI T)), some (.int (nI l)), some (.int (iI (y_its l s val))), l6] [] (F3, g, x_HR r t, dm, n) 0 0)) (K : (∀ F' l5 l6, x_fr l F F' → F' 512 l = nI (v 1 0 0) → F' 513 l = y_cm l s (y_gm (v_gain (v_lead k) v (x_mv l a b) (x_mv (l + 1) a b)) (v 1 0 0 + 1)) → (l = 0 → ∀ c, y_gm (v_gain (v_lead k) v (x_mv l a b) (x_mv (l + 1) a b)) (v 1 0 0 + 1) = some c → F' 500 31 = nI c.2) → x_J 306 (d + 6) P 50 [some (.ref 500), some (.int (nI a)), some (.int (nI b)), some (.int (nI T)), some (.int (nI l)), l5, l6] [] (F', g, x_HR r t, dm, n) 0 0)) (l5 l6 : Option Value) : x_J 306 (d + 6) P 50 [some (.ref 500), some (.int (nI a)), some (.int (nI b)), some (.int (nI T)), some (.int (nI l)), l5, l6] [] (F, g, x_HR r t, dm, n) 0 0 := by
  have hB := v_Bn_B hBn (by omega)
  have bK := v_B_K hB
  have bG := v_B_G hB
  have bP := v_B_P hB
  have hm2 : x_mv l a b < v 2 0 0 := by unfold x_mv; split <;> assumption
  have hr2 : x_mv (l + 1) a b < v 2 0 0 := by unfold x_mv; split <;> assumption
  have er : nI l - nI l / nI 2 * nI 2 = nI (l % 2) := pk_rem (by omega) (by decide) (by decide)
  have inner : ∀ mm j Fj l5 l6, j + mm = v 1 0 0 + 1 → x_fr l F Fj → Fj 512 l = nI j - 1 → Fj 513 l = y_cm l s (y_gm (v_gain (v_lead k) v (x_mv l a b) (x_mv (l + 1) a b)) j) → (l = 0 → ∀ c, y_gm (v_gain (v_lead k) v (x_mv l a b) (x_mv (l + 1) a b)) j = some c → Fj 500 31 = nI c.2) → x_J 306 (d + 6) P 50 [some (.ref 500), some (.int (nI a)), some (.int (nI b)), some (.int (nI T)), some (.int (nI l)), l5, l6] [] (Fj, g, x_HR r t, dm, n) 0 0 := by
    intro mm
    induction mm with
    | zero =>
      intro j Fj l5 l6 hj q1 q2 q3 q4
      obtain rfl : j = v 1 0 0 + 1 := by omega
      rw [nI_pred] at q2
      exact K Fj l5 l6 q1 q2 q3 q4
    | succ mm ih =>
      intro j Fj l5 l6 hj q1 q2 q3 q4
      have st2 : ∀ (w : xV) (F3 : Nat → Nat → Int32) (val : Int) l6, x_fr l F F3 → F3 512 l = nI j → F3 513 l = y_cm l s (y_gm (v_gain (v_lead k) v (x_mv l a b) (x_mv (l + 1) a b)) j) → (l = 0 → ∀ c, y_gm (v_gain (v_lead k) v (x_mv l a b) (x_mv (l + 1) a b)) j = some c → F3 500 31 = nI c.2) → v_M (F3 501) 0 w → v_Bn (N + 1000 * (l + 1)) w → (∀ c i q, c ≠ 17 → c ≠ 13 → c ≠ 15 → c ≠ 11 → w c i q = v c i q) → 0 ≤ val → val ≤ 99 → (v_gain (v_lead k) v (x_mv l a b) (x_mv (l + 1) a b)) j = some (val - v_lead k w (x_mv (l + 1) a b) (x_mv l a b)) → x_J 306 (d + 6) P 209 [some (.ref 500), some (.int (nI a)), some (.int (nI b)), some (.int (nI T)), some (.int (nI l)), some (.int (iI (y_its l s val))), l6] [] (F3, g, x_HR r t, dm, n) 0 0 := by
        intro w F3 val l6 a1 a2 a3 a4 a5 a6 a7 a8 a9 a10
        have w2 : w 2 0 0 = v 2 0 0 := a7 2 0 0 (by decide) (by decide) (by decide) (by decide)
        refine step j F3 w val _ l6 (by omega) a1 a2 a3 a4 a5 a6 (by omega) (by omega) (a7 1 0 0 (by decide) (by decide) (by decide) (by decide)) a8 a9 rfl (fun F4 l5 l6 b1 b2 b3 b4 => ?_)
        rw [← y_gm_S a10] at b3 b4
        exact ih (j + 1) F4 l5 l6 (by omega) b1 (by rw [nI_pred]; exact b2) b3 b4
      have at117 : ∀ F2 l5 l6, x_fr l F F2 → F2 512 l = nI j → F2 513 l = y_cm l s (y_gm (v_gain (v_lead k) v (x_mv l a b) (x_mv (l + 1) a b)) j) → (l = 0 → ∀ c, y_gm (v_gain (v_lead k) v (x_mv l a b) (x_mv (l + 1) a b)) j = some c → F2 500 31 = nI c.2) → v_M (F2 501) 0 v → x_J 306 (d + 6) P 117 [some (.ref 500), some (.int (nI a)), some (.int (nI b)), some (.int (nI T)), some (.int (nI l)), l5, l6] [] (F2, g, x_HR r t, dm, n) 0 0 := by
        intro F2 l5 l6 a1 a2 a3 a4 hM2
        have h1' : F2 501 1 = nI (v 1 0 0) := v_M_at hM2 (c := 1) (i := 0) (j := 0) ⟨rfl, rfl⟩
        have hs2 : F2 514 l = iI s := a1.2.1.trans hs0
        have at155 : j < v 1 0 0 → ∀ l6, x_J 306 (d + 6) P 155 [some (.ref 500), some (.int (nI a)), some (.int (nI b)), some (.int (nI T)), some (.int (nI l)), some (.int (F2 514 l)), l6] [.int (nI (x_mv l a b)), .ref 500] (F2, g, x_HR r t, dm, n) 0 0 := by
          intro hjG l6
          have cb := m_buys (d := d + 1) (g := g) (r := r) (t := t) (dm := dm) (n := n) (m := 1) hM2 hB hm2 hjG (by decide)
          rw [← a2] at cb
          have hgj : (v_gain (v_lead k) v (x_mv l a b) (x_mv (l + 1) a b)) j = if v_cb v (x_mv l a b) j 1 = true then some ((v 10 j 0 : Int) - v_lead k (d_tb v (x_mv l a b) j 1 (v_vec v (x_mv l a b) (v_S v j 1))) (x_mv (l + 1) a b) (x_mv l a b)) else none := if_pos hjG
          refine x_wp_ok ok306 [50, 209] 8 ?_
          refine And.intro (x_ix_nI (by omega) (by omega)) ?_
          rw [nI_clamp (by omega)]
          refine Exists.intro _ (And.intro cb (And.intro (And.intro (Nat.zero_le _) (Nat.zero_le _)) (fun q h' hpo => ?_)))
          obtain ⟨F3, rfl, rfl, hF3, -⟩ := hpo
          have fr3 : x_fr l F F3 := x_fr_tr a1 ⟨fun i hi => by rw [hF3.2.2.2 512 (by decide) (by decide) (by decide), hF3.2.2.2 513 (by decide) (by decide) (by decide), hF3.2.2.2 514 (by decide) (by decide) (by decide)]; exact ⟨rfl, rfl, rfl⟩, by rw [hF3.2.2.2 514 (by decide) (by decide) (by decide)], fun q h1 _ => hF3.2.1 q h1, fun q hq => by have := x_mk_ne hq; exact hF3.2.2.2 q (by omega) (by omega) (by omega), fun q _ => by rw [hF3.2.2.2 500 (by decide) (by decide) (by decide)], fun _ => by rw [hF3.2.2.2 500 (by decide) (by decide) (by decide)]⟩
          have e512 : F3 512 = F2 512 := hF3.2.2.2 512 (by decide) (by decide) (by decide)
          have e513 : F3 513 = F2 513 := hF3.2.2.2 513 (by decide) (by decide) (by decide)
          have e500 : F3 500 = F2 500 := hF3.2.2.2 500 (by decide) (by decide) (by decide)
          by_cases hcb : v_cb v (x_mv l a b) j 1 = true
          · have es : s_buy v (x_mv l a b) j 1 = some (nI (v_few v (x_mv l a b) (v_S v j 1)), d_buy v (x_mv l a b) j 1) := if_pos hcb
            obtain ⟨b1, b2, b3, b4⟩ := v_cb_at hcb
            rw [es] at hF3 ⊢
            have hF3M : v_M (F3 501) 0 (d_buy v (x_mv l a b) j 1) := hF3.1
            have hBb : v_Bn (N + 1000 * (l + 1)) (d_buy v (x_mv l a b) j 1) := v_Bn_tb (v_Bn_17 hBn (x := v 17 0 0 + v_S v j 1) (M := N + 1000 * (l + 1)) (by omega) (by have := hBn.2.2.2; omega)) _ hm2 hjG b2
            have hdc : ∀ c i q, c ≠ 17 → c ≠ 13 → c ≠ 15 → c ≠ 11 → d_buy v (x_mv l a b) j 1 c i q = v c i q := fun c i q h1 h2 h3 h4 => by
              show d_tb _ _ _ _ _ c i q = _
              rw [d_tb_c h2 h3 h4, v_set_c h1]
            have b10 : v 10 j 0 ≤ 99 := (hB.1 10 j 0 (show j < v 1 0 0 ∧ 0 = 0 from ⟨hjG, rfl⟩)).2
            have h10 : F3 501 (16 + 2 * j) = nI (v 10 j 0) := (v_M_at hF3M (c := 10) (i := j) (j := 0) (show j < d_buy v (x_mv l a b) j 1 1 0 0 ∧ 0 = 0 from ⟨by rw [hdc 1 0 0 (by decide) (by decide) (by decide) (by decide)]; exact hjG, rfl⟩)).trans (by rw [hdc 10 j 0 (by decide) (by decide) (by decide) (by decide)])
            have hgo := st2 (d_buy v (x_mv l a b) j 1) F3 (v 10 j 0 : Int) (some (.int (F3 501 (16 + 2 * j)))) fr3 (by rw [e512]; exact a2) (by rw [e513]; exact a3) (by rw [e500]; exact a4) hF3M hBb hdc (by omega) (by omega) (by
              rw [hgj, if_pos hcb]
              congr 2
              exact (v_lead_cg k _ _ (fun c i q hc => by
                show d_tb _ _ _ _ _ c i q = _
                rw [d_tb_at, d_tb_at, v_set_c (by decide), v_set_c (by decide), v_set_c (by decide), v_set_c (by decide), v_set_c hc]) _ _).symm)
            have gr := m_goodRow (d := d + 5) (p := j) (h := (F3, g, x_HR r t, dm, n))
            rw [show nI j = F3 512 l by rw [e512, a2]] at gr
            refine And.intro (fun _ => ?_) (fun c => absurd (show (1 : Int32) = 0 from c) (by decide))
            refine And.intro (x_ix_nI (by omega) (by omega)) ?_
            rw [nI_clamp (by omega)]
            refine Exists.intro _ (And.intro gr (And.intro (And.intro (Nat.zero_le _) (Nat.zero_le _)) (fun q h' hpo => ?_)))
            obtain ⟨rfl, rfl⟩ := hpo
            refine And.intro (x_ix_nI (by omega) (by omega)) ?_
            rw [nI_clamp (by omega)]
            refine And.intro (by decide) ?_
            refine And.intro (fun c5 => ?_) (fun c5 => ?_)
            · have c5 : ¬ nI l - nI l / nI 2 * nI 2 = nI 0 := c5
              rw [er, nI_eq (by omega) (by decide)] at c5
              have ev : F2 514 l + -(F3 501 (16 + 2 * j)) = iI (y_its l s (v 10 j 0 : Int)) := by
                rw [hs2, h10, iI_nI, iI_neg, iI_add]
                congr 1
                show _ = if l % 2 = 0 then _ else _
                rw [if_neg c5]
                omega
              rw [← ev] at hgo
              exact hgo
            · have c5 : nI l - nI l / nI 2 * nI 2 = nI 0 := c5
              rw [er, nI_eq (by omega) (by decide)] at c5
              have ev : F2 514 l + F3 501 (16 + 2 * j) = iI (y_its l s (v 10 j 0 : Int)) := by
                rw [hs2, h10, iI_nI, iI_add]
                congr 1
                show _ = if l % 2 = 0 then _ else _
                rw [if_pos c5]
              rw [← ev] at hgo
              exact hgo
          · have es : s_buy v (x_mv l a b) j 1 = none := if_neg hcb
            have hgn : (v_gain (v_lead k) v (x_mv l a b) (x_mv (l + 1) a b)) j = none := by rw [hgj, if_neg hcb]
            rw [es] at hF3 ⊢
            refine And.intro (fun c => absurd rfl c) (fun _ => ?_)
            exact ih (j + 1) F3 _ _ (by omega) fr3 (by rw [nI_pred, e512]; exact a2) (by rw [y_gm_n hgn, e513]; exact a3) (by rw [y_gm_n hgn, e500]; exact a4)
        refine x_wp_ok ok306 [50, 155, 209] 8 ?_
        refine And.intro (x_ix_nI (by omega) (by omega)) ?_
        rw [nI_clamp (by omega)]
        refine And.intro (x_ix_nI (by omega) (by omega)) ?_
        rw [nI_clamp (by omega)]
        refine And.intro (x_ix_nI (j := 1) (by decide) (by decide)) ?_
        refine And.intro (fun c4 => ?_) (fun c4 => ?_)
        · have c4 : F2 501 1 ≤ F2 512 l := c4
          rw [h1', a2, nI_leI (by omega) (by omega)] at c4
          obtain rfl : j = v 1 0 0 := by omega
          have hgo := st2 v F2 0 l6 a1 a2 a3 a4 hM2 (v_Bn_mono hBn (by omega)) (fun _ _ _ _ _ _ _ => rfl) (by decide) (by decide) v_gain_G
          have ev : F2 514 l = iI (y_its l s 0) := by
            rw [hs2]
            congr 1
            show _ = if l % 2 = 0 then _ else _
            split <;> omega
          rw [← ev] at hgo
          exact hgo
        · have c4 : ¬ F2 501 1 ≤ F2 512 l := c4
          rw [h1', a2, nI_leI (by omega) (by omega)] at c4
          refine And.intro (by decide) ?_
          refine And.intro (fun c5 => ?_) (fun c5 => ?_)
          · have c5 : ¬ nI l - nI l / nI 2 * nI 2 = nI 0 := c5
            rw [er, nI_eq (by omega) (by decide)] at c5
            have e := at155 (by omega) l6
            rw [show x_mv l a b = b from if_neg c5] at e
            exact e
          · have c5 : nI l - nI l / nI 2 * nI 2 = nI 0 := c5
            rw [er, nI_eq (by omega) (by decide)] at c5
            have e := at155 (by omega) l6
            rw [show x_mv l a b = a from if_pos c5] at e
            exact e
      refine x_wp_ok ok306 [50, 117] 8 ?_
      refine And.intro (fun c0 => ?_) (fun c0 => ?_)
      · have c0 : nI l < nI 0 := c0
        rw [nI_ltI (by omega) (by decide)] at c0
        omega
      · refine Exists.intro _ (And.intro m_levelAt (And.intro (And.intro (Nat.zero_le _) (Nat.zero_le _)) (fun q h' hpo => ?_)))
        obtain ⟨rfl, rfl⟩ := hpo
        refine Exists.intro _ (And.intro (m_restores (show 96 ≤ 2784 + 96 * l by omega) (by omega)) (And.intro (And.intro (Nat.zero_le _) (Nat.zero_le _)) (fun q h' hpo => ?_)))
        obtain ⟨rfl, F1, rfl, r1, r2⟩ := hpo
        have hM1 : v_M (F1 501) 0 v := v_M_mv hB hM (fun q hq => by rw [Nat.zero_add, r2, if_pos hq, q1.2.2.1 _ (by omega) (by omega)])
        have fr1 : x_fr l F F1 := x_fr_tr q1 ⟨fun i hi => by rw [r1 512 (by decide), r1 513 (by decide), r1 514 (by decide)]; exact ⟨rfl, rfl, rfl⟩, by rw [r1 514 (by decide)], fun q h1 _ => by rw [r2, if_neg (by omega)], fun q hq => r1 q (by have := x_mk_ne hq; omega), fun q _ => by rw [r1 500 (by decide)], fun _ => by rw [r1 500 (by decide)]⟩
        have e512 : F1 512 l + Int32.ofInt 1 = nI j := by
          rw [r1 512 (by decide), q2]
          exact Int32.sub_add_cancel (nI j) 1
        have h1' : F1 501 1 = nI (v 1 0 0) := v_M_at hM1 (c := 1) (i := 0) (j := 0) ⟨rfl, rfl⟩
        refine And.intro (x_ix_nI (by omega) (by omega)) ?_
        rw [nI_clamp (by omega)]
        refine And.intro (x_ix_nI (by omega) (by omega)) ?_
        rw [nI_clamp (by omega)]
        refine And.intro (x_ix_nI (by omega) (by omega)) ?_
        rw [nI_clamp (by omega)]
        refine And.intro (x_ix_nI (j := 1) (by decide) (by decide)) ?_
        refine And.intro (fun c1 => ?_) (fun c1 => ?_)
        · have e := at117 (x_up F1 512 l (nI j)) l5 l6 (x_fr_tr fr1 ⟨fun i hi => by rw [x_up_j (by omega), x_up_k (by decide), x_up_k (by decide)]; exact ⟨rfl, rfl, rfl⟩, by rw [x_up_k (by decide)], fun q _ _ => by rw [x_up_k (by decide)], fun q hq => x_up_k (by have := x_mk_ne hq; omega), fun q _ => by rw [x_up_k (by decide)], fun _ => by rw [x_up_k (by decide)]⟩) (x_up_s _ _ _ _) (by rw [x_up_k (by decide), r1 513 (by decide)]; exact q3) (by rw [x_up_k (by decide), r1 500 (by decide)]; exact q4) (by rw [x_up_k (by decide)]; exact hM1)
          rw [← e512] at e
          exact e
        · have c1 : ¬ x_up F1 512 l (F1 512 l + Int32.ofInt 1) 512 l ≤ x_up F1 512 l (F1 512 l + Int32.ofInt 1) 501 1 := c1
          rw [x_up_s, x_up_k (by decide), e512, h1', nI_leI (by omega) (by omega)] at c1
          omega
  exact inner (v 1 0 0 + 1) 0 F l5 l6 (Nat.zero_add _) (x_fr_0 l F) (by rw [hd]; rfl) (by rw [hc0]; rfl) (fun _ c hc => by cases hc)
end C50
