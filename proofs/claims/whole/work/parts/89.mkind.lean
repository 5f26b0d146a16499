/-! kinds, goods, people, sheets: the model reads them -/
section C89
variable {f : Nat → Nat → Int32} {g : Nat → Nat → Int64} {r t : Nat} {dm : List Nat} {n d L : Nat} {v : xV} {a : Nat → Int32} {m q : Nat} {N : Nat → Int64} {S : xL} {ρ : Nat → Nat → Option Nat} {X : xF (xL × Nat)} {z : Option Value} {h' : xH} {e : Nat × Nat} {w : xL × Nat} {F : Nat → Nat → Int32} {G : Nat → Nat → Int64}
theorem x_RMt_up {i : Nat} {x : Int32} (hR : x_RMt a m q f) : x_RMt a m q (x_up f 501 i x) := ⟨(x_up_k (by decide)).trans hR.1, by rw [x_up_k (by decide)]; exact hR.2.1, by rw [x_up_k (by decide)]; exact hR.2.2⟩
theorem m_aKind (hT : y_TP a m) (hB : v_BA S.1) (hS : x_MS a m S q f g) (hw : y_sa a m q = 1) : x_Ct 213 (d + 8) [.ref 500] (f, g, x_HR r t, dm, n) (x_PMd a m f g (x_HR r t) dm n (y_kind1 a m S q)) := by
  obtain ⟨Po, hPo⟩ : ∃ Po : Option Value → xH → Prop, Po = x_PMd a m f g (x_HR r t) dm n (y_kind1 a m S q) := ⟨_, rfl⟩
  rw [← hPo]
  have h0 : f 501 1856 = nI (S.1 0 0 0) := hS.2.1.1 0 0 0 ⟨rfl, rfl⟩
  have b0 := v_BA_K hB
  have b1 := v_BA_G hB
  have b2 := v_BA_P hB
  have no : ∀ F G, Po (some (.int 0)) (F, G, x_HR r t, dm, n) → x_J 213 (d + 8) Po 44 [some (.ref 500)] [] (F, G, x_HR r t, dm, n) 0 0 := by
    intro F G h
    refine x_wp_ok ok213 [] 6 ?_
    refine And.intro ?_ ⟨Or.inl rfl, Nat.le_refl _, Nat.le_refl _⟩
    exact h
  refine x_Ct_w (by decide) (Nat.le_of_ble_eq_true rfl) ok213 [44] 6 ?_
  refine Exists.intro _ (And.intro (m_newOne_0 hT hB hS hw) (And.intro (And.intro (Nat.zero_le _) (Nat.zero_le _)) (fun zq h' hpo => ?_)))
  by_cases c : S.1 0 0 0 = 4
  · rw [if_pos c] at hpo
    obtain ⟨rfl, F1, rfl, u1, u2⟩ := hpo
    refine And.intro (fun _ => ?_) (fun c => absurd rfl c)
    refine no F1 g ?_
    rw [hPo]
    exact x_PMd_l (if_pos c) (x_fM_5 u1) u2
  · rw [if_neg c, Nat.zero_add] at hpo
    have eY : ∀ Y, y_new a m S.2.1 (S.1 0 0 0) (S.1 1 0 0) (S.1 2 0 0) (S.1 0 0 0) (y_nxt a m q) = Y → y_kind1 a m S q = y_bd Y (fun z => y_bd (y_wrd a m 7 z.2) (fun q2 => y_bd (y_nbr a m 1 500 q2) (fun x => .inr ((v_set (v_set S.1 9 (S.1 0 0 0) 0 x.1) 0 0 0 (S.1 0 0 0 + 1), z.1, S.2.2), x.2)))) := by
      intro Y hY
      unfold y_kind1
      rw [if_neg c, hY]
    cases e1 : y_new a m S.2.1 (S.1 0 0 0) (S.1 1 0 0) (S.1 2 0 0) (S.1 0 0 0) (y_nxt a m q) with
    | inl e =>
      rw [e1] at hpo
      obtain ⟨rfl, F1, rfl, u1, u2⟩ := hpo
      refine And.intro (fun _ => ?_) (fun c => absurd rfl c)
      refine no F1 g ?_
      rw [hPo]
      exact x_PMd_l (eY _ e1) (x_fM_5 u1) u2
    | inr y =>
      rw [e1] at hpo
      obtain ⟨rfl, F1, rfl, u1, u2⟩ := hpo
      have k1 := y_new_gt e1
      obtain ⟨G1, hG1⟩ : ∃ G1, G1 = x_up g 502 (56 + S.1 0 0 0) (y_lt a m (y_nxt a m q)) := ⟨_, rfl⟩
      rw [← hG1]
      have n1 : x_fM f g F1 G1 := by
        rw [hG1]
        exact x_fM_t (x_fM_gp (by omega)) (x_fM_5 u1)
      refine And.intro (fun c => absurd (show (1 : Int32) = 0 from c) (by decide)) (fun _ => ?_)
      refine Exists.intro _ (And.intro (m_wantWord (w := 7) (c := 7) rfl (by decide) hT u2) (And.intro (And.intro (Nat.zero_le _) (Nat.zero_le _)) (fun zq h' hpo => ?_)))
      cases e2 : y_wrd a m (nI 7) y.2 with
      | inl e =>
        obtain ⟨rfl, F2, rfl, w1, w2⟩ := x_PUm_l e2 hpo
        refine And.intro (fun _ => ?_) (fun c => absurd rfl c)
        refine no F2 G1 ?_
        rw [hPo]
        refine x_PMd_l ((eY _ e1).trans ?_) (x_fM_t n1 (x_fM_5 w1)) w2
        show y_bd (y_wrd a m (nI 7) y.2) _ = _
        rw [e2]
        rfl
      | inr q3 =>
        obtain ⟨rfl, F2, rfl, w2, w1⟩ := x_PUm_r e2 hpo
        have e501 : F2 501 = f 501 := (w1.1 501 (by decide)).trans (u1.1 501 (by decide))
        refine And.intro (fun c => absurd (show (1 : Int32) = 0 from c) (by decide)) (fun _ => ?_)
        refine And.intro (by unfold x_ix; decide) ?_
        show ∃ P, x_Ct 204 (d + 7) [.ref 500, .int (nI 1868 + F2 501 1856), .int (nI 1), .int (nI 500)] (F2, G1, x_HR r t, dm, n) P ∧ _
        rw [e501, h0, nI_add]
        refine Exists.intro _ (And.intro (m_number (to := 1868 + S.1 0 0 0) (lo := 1) (hi := 500) (by omega) (by decide) (by decide) hT w2) (And.intro (And.intro (Nat.zero_le _) (Nat.zero_le _)) (fun zq h' hpo => ?_)))
        cases e3 : y_nbr a m 1 500 q3 with
        | inl e =>
          obtain ⟨rfl, F3, rfl, p1, p2⟩ := x_PUm_l e3 hpo
          refine And.intro (fun c => absurd rfl c) (fun _ => ?_)
          refine no F3 G1 ?_
          rw [hPo]
          refine x_PMd_l ((eY _ e1).trans ?_) (x_fM_t n1 (x_fM_t (x_fM_5 w1) (x_fM_5 p1))) p2
          show y_bd (y_wrd a m (nI 7) y.2) _ = _
          rw [e2]
          show y_bd (y_nbr a m 1 500 q3) _ = _
          rw [e3]
          rfl
        | inr x =>
          obtain ⟨rfl, F3, rfl, p2, p1⟩ := x_PUm_r e3 hpo
          have k3 := y_nbr_gt e3
          have f3 : F3 501 = va_up (f 501) (1868 + S.1 0 0 0) (nI x.1) := by rw [p1.1 501 (by decide), x_up_c, e501]
          have v3 : F3 501 1856 = nI (S.1 0 0 0) := by rw [f3, x_un (by omega)]; exact h0
          refine And.intro (fun _ => ?_) (fun c => absurd (show (1 : Int32) = 0 from c) (by decide))
          refine And.intro (by unfold x_ix; decide) ?_
          refine And.intro (by unfold x_ix; decide) ?_
          refine And.intro ?_ ⟨Or.inr rfl, Nat.le_refl _, Nat.le_refl _⟩
          rw [hPo]
          show x_PMd a m f g (x_HR r t) dm n (y_kind1 a m S q) (some (.int 1)) (x_up F3 501 1856 (F3 501 1856 + Int32.ofInt 1), G1, x_HR r t, dm, n)
          rw [v3, nI_1o]
          refine x_PMd_r (w := ((v_set (v_set S.1 9 (S.1 0 0 0) 0 x.1) 0 0 0 (S.1 0 0 0 + 1), y.1, S.2.2), x.2)) ((eY _ e1).trans ?_) (x_fM_t n1 (x_fM_t (x_fM_5 w1) (x_fM_t (x_fM_up (by omega)) (x_fM_t (x_fM_5 p1) (x_fM_up (by decide)))))) ⟨x_RMt_up p2, ?_, ⟨?_, fun i hi1 hi2 => ?_⟩, ?_⟩
          · show y_bd (y_wrd a m (nI 7) y.2) _ = _
            rw [e2]
            show y_bd (y_nbr a m 1 500 q3) _ = _
            rw [e3]
            rfl
          · rw [x_up_c, f3]
            have e0 : v_set S.1 9 (S.1 0 0 0) 0 x.1 0 0 0 = S.1 0 0 0 := v_set_c (by decide)
            have w := v_MA_up hS.2.1 (vp := v_set S.1 0 0 0 (S.1 0 0 0 + 1)) (fun c i j h => v_al_up (s := 0) (by decide) h) (by rw [v_set_s]; omega) (by rw [v_set_c (by decide)]; omega) (by rw [v_set_c (by decide)]; omega) (c := 9) (i := S.1 0 0 0) (j := 0) (x := x.1) (by
              show S.1 0 0 0 < v_set S.1 0 0 0 (S.1 0 0 0 + 1) 0 0 0 ∧ 0 = 0
              rw [v_set_s]
              omega) (by decide)
            have w2 := v_MA_more w (s := 0) (by decide) (by rw [v_set_s, e0]; omega) (by rw [v_set_c (by decide), v_set_c (by decide)]; omega) (by rw [v_set_c (by decide), v_set_c (by decide)]; omega) (fun c hc => by
              rcases hc with ⟨-, rfl⟩ | ⟨h1, -⟩ | ⟨h1, -⟩
              · rw [e0, v_set_s]
                exact x_us
              · omega
              · omega)
            rw [e0] at w2
            have ep : 1856 + v_pm 9 (S.1 0 0 0) 0 = 1868 + S.1 0 0 0 := by
              show 1856 + (12 + S.1 0 0 0) = _
              omega
            rw [ep] at w2
            exact w2
          · rw [x_up_j (by decide), f3, x_un (by omega)]
            exact hS.2.2.1.1
          · rw [x_up_j (by omega), f3, x_un (by omega)]
            refine hS.2.2.1.2 i ?_ hi2
            have hi1 : v_set (v_set S.1 9 (S.1 0 0 0) 0 x.1) 0 0 0 (S.1 0 0 0 + 1) 2 0 0 ≤ i := hi1
            rw [v_set_c (by decide), v_set_c (by decide)] at hi1
            exact hi1
          · have eN : (fun i => G1 502 (56 + i)) = va_up (fun i => g 502 (56 + i)) (S.1 0 0 0) (y_lt a m (y_nxt a m q)) := by
              funext i
              rw [hG1, x_up_c]
              by_cases e : i = S.1 0 0 0
              · rw [e, x_us, x_us]
              · rw [x_un (by omega), x_un e]
            rw [eN, k1.2]
            refine y_NR_up hS.2.2.2 (fun i hi => ?_) (fun i hi => Or.inl ?_) (fun i hi => Or.inl ?_)
            · have hi : i < v_set (v_set S.1 9 (S.1 0 0 0) 0 x.1) 0 0 0 (S.1 0 0 0 + 1) 0 0 0 := hi
              rw [v_set_s] at hi
              omega
            · have hi : i < v_set (v_set S.1 9 (S.1 0 0 0) 0 x.1) 0 0 0 (S.1 0 0 0 + 1) 1 0 0 := hi
              rw [v_set_c (by decide), v_set_c (by decide)] at hi
              exact hi
            · have hi : i < v_set (v_set S.1 9 (S.1 0 0 0) 0 x.1) 0 0 0 (S.1 0 0 0 + 1) 2 0 0 := hi
              rw [v_set_c (by decide), v_set_c (by decide)] at hi
              exact hi
end C89
