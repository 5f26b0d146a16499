/-! goods, people, sheets: the model reads them -/
section C90
variable {f : Nat → Nat → Int32} {g : Nat → Nat → Int64} {r t : Nat} {dm : List Nat} {n d L : Nat} {v : xV} {a : Nat → Int32} {m q : Nat} {N : Nat → Int64} {S : xL} {ρ : Nat → Nat → Option Nat} {X : xF (xL × Nat)} {z : Option Value} {h' : xH} {e : Nat × Nat} {w : xL × Nat} {F : Nat → Nat → Int32} {G : Nat → Nat → Int64}
theorem m_aGood (hT : y_TP a m) (hB : v_BA S.1) (hS : x_MS a m S q f g) (hw : y_sa a m q = 1) : x_Ct 214 (d + 8) [.ref 500] (f, g, x_HR r t, dm, n) (x_PMd a m f g (x_HR r t) dm n (y_good1 a m S q)) := by
  obtain ⟨Po, hPo⟩ : ∃ Po : Option Value → xH → Prop, Po = x_PMd a m f g (x_HR r t) dm n (y_good1 a m S q) := ⟨_, rfl⟩
  rw [← hPo]
  have h1 : f 501 1857 = nI (S.1 1 0 0) := hS.2.1.1 1 0 0 ⟨rfl, rfl⟩
  have b0 := v_BA_K hB
  have b1 := v_BA_G hB
  have b2 := v_BA_P hB
  obtain ⟨gg, hgg⟩ : ∃ gg, gg = 1872 + 2 * S.1 1 0 0 := ⟨_, rfl⟩
  have no : ∀ F G, Po (some (.int 0)) (F, G, x_HR r t, dm, n) → x_J 214 (d + 8) Po 47 [some (.ref 500), some (.int (nI gg))] [] (F, G, x_HR r t, dm, n) 0 0 := by
    intro F G h
    refine x_wp_ok ok214 [] 6 ?_
    refine And.intro ?_ ⟨Or.inl rfl, Nat.le_refl _, Nat.le_refl _⟩
    exact h
  refine x_Ct_w (by decide) (Nat.le_of_ble_eq_true rfl) ok214 [15] 6 ?_
  refine And.intro (by unfold x_ix; decide) ?_
  show x_J 214 (d + 8) Po 15 [some (.ref 500), some (.int (nI 1872 + nI 2 * f 501 1857))] [] (f, g, x_HR r t, dm, n) 0 0
  rw [h1, pk_mul, nI_add, ← hgg]
  refine x_wp_ok ok214 [47, 84] 6 ?_
  refine Exists.intro _ (And.intro (m_newOne_1 hT hB hS hw) (And.intro (And.intro (Nat.zero_le _) (Nat.zero_le _)) (fun zq h' hpo => ?_)))
  by_cases c : S.1 1 0 0 = 5
  · rw [if_pos c] at hpo
    obtain ⟨rfl, F1, rfl, u1, u2⟩ := hpo
    refine And.intro (fun _ => ?_) (fun c => absurd rfl c)
    refine no F1 g ?_
    rw [hPo]
    exact x_PMd_l (if_pos c) (x_fM_5 u1) u2
  · rw [if_neg c] at hpo
    have eY : ∀ Y, y_new a m S.2.1 (S.1 0 0 0) (S.1 1 0 0) (S.1 2 0 0) (4 + S.1 1 0 0) (y_nxt a m q) = Y → y_good1 a m S q = y_bd Y (fun z => y_bd (y_wrd a m 8 z.2) (fun q2 => y_bd (y_nbr a m 1 99 q2) (fun x => y_bd (y_chc a m 9 999 10 x.2) (fun y => .inr ((v_set (v_set (v_set S.1 10 (S.1 1 0 0) 0 x.1) 11 (S.1 1 0 0) 0 y.1) 1 0 0 (S.1 1 0 0 + 1), z.1, S.2.2), y.2))))) := by
      intro Y hY
      unfold y_good1
      rw [if_neg c, hY]
    cases e1 : y_new a m S.2.1 (S.1 0 0 0) (S.1 1 0 0) (S.1 2 0 0) (4 + S.1 1 0 0) (y_nxt a m q) with
    | inl e =>
      rw [e1] at hpo
      obtain ⟨rfl, F1, rfl, u1, u2⟩ := hpo
      refine And.intro (fun _ => ?_) (fun c => absurd rfl c)
      refine no F1 g ?_
      rw [hPo]
      exact x_PMd_l (eY _ e1) (x_fM_5 u1) u2
    | inr y =>
      rw [e1] at hpo
      obtain ⟨rfl, F1, rfl, u1, u2⟩ := hpo
      have k1 := y_new_gt e1
      obtain ⟨G1, hG1⟩ : ∃ G1, G1 = x_up g 502 (56 + (4 + S.1 1 0 0)) (y_lt a m (y_nxt a m q)) := ⟨_, rfl⟩
      rw [← hG1]
      have n1 : x_fM f g F1 G1 := by
        rw [hG1]
        exact x_fM_t (x_fM_gp (by omega)) (x_fM_5 u1)
      refine And.intro (fun c => absurd (show (1 : Int32) = 0 from c) (by decide)) (fun _ => ?_)
      refine Exists.intro _ (And.intro (m_wantWord (w := 8) (c := 8) rfl (by decide) hT u2) (And.intro (And.intro (Nat.zero_le _) (Nat.zero_le _)) (fun zq h' hpo => ?_)))
      cases e2 : y_wrd a m (nI 8) y.2 with
      | inl e =>
        obtain ⟨rfl, F2, rfl, w1, w2⟩ := x_PUm_l e2 hpo
        refine And.intro (fun _ => ?_) (fun c => absurd rfl c)
        refine no F2 G1 ?_
        rw [hPo]
        refine x_PMd_l ((eY _ e1).trans ?_) (x_fM_t n1 (x_fM_5 w1)) w2
        show y_bd (y_wrd a m (nI 8) y.2) _ = _
        rw [e2]
        rfl
      | inr q3 =>
        obtain ⟨rfl, F2, rfl, w2, w1⟩ := x_PUm_r e2 hpo
        have e501 : F2 501 = f 501 := (w1.1 501 (by decide)).trans (u1.1 501 (by decide))
        refine And.intro (fun c => absurd (show (1 : Int32) = 0 from c) (by decide)) (fun _ => ?_)
        refine Exists.intro _ (And.intro (m_number (to := gg) (lo := 1) (hi := 99) (by omega) (by decide) (by decide) hT w2) (And.intro (And.intro (Nat.zero_le _) (Nat.zero_le _)) (fun zq h' hpo => ?_)))
        cases e3 : y_nbr a m 1 99 q3 with
        | inl e =>
          obtain ⟨rfl, F3, rfl, p1, p2⟩ := x_PUm_l e3 hpo
          refine And.intro (fun c => absurd rfl c) (fun _ => ?_)
          refine no F3 G1 ?_
          rw [hPo]
          refine x_PMd_l ((eY _ e1).trans ?_) (x_fM_t n1 (x_fM_t (x_fM_5 w1) (x_fM_5 p1))) p2
          show y_bd (y_wrd a m (nI 8) y.2) _ = _
          rw [e2]
          show y_bd (y_nbr a m 1 99 q3) _ = _
          rw [e3]
          rfl
        | inr x =>
          obtain ⟨rfl, F3, rfl, p2, p1⟩ := x_PUm_r e3 hpo
          have k3 := y_nbr_gt e3
          have f3 : F3 501 = va_up (f 501) gg (nI x.1) := by rw [p1.1 501 (by decide), x_up_c, e501]
          have n3 : x_fM f g F3 G1 := x_fM_t n1 (x_fM_t (x_fM_5 w1) (x_fM_t (x_fM_up (i := gg) (x := nI x.1) (by omega)) (x_fM_5 p1)))
          refine And.intro (fun _ => ?_) (fun c => absurd (show (1 : Int32) = 0 from c) (by decide))
          have i1 : nI gg + Int32.ofInt 1 = nI (gg + 1) := nI_1o gg
          refine And.intro (by show x_ix (nI gg + Int32.ofInt 1) 3168; rw [i1]; exact x_ix_nI (by omega) (by omega)) ?_
          obtain ⟨F4, hF4⟩ : ∃ F4, F4 = x_up F3 501 (gg + 1) (nI 10) := ⟨_, rfl⟩
          have hF4' : F4 = x_up F3 501 (nI gg + Int32.ofInt 1).toNatClampNeg (nI 10) := by rw [hF4, i1, nI_clamp (by omega)]
          have f4 : F4 501 = va_up (va_up (f 501) gg (nI x.1)) (gg + 1) (nI 10) := by rw [hF4, x_up_c, f3]
          have p4 : x_RMt a m x.2 F4 := by
            rw [hF4]
            exact x_RMt_up p2
          have n4 : x_fM f g F4 G1 := by
            rw [hF4]
            exact x_fM_t n3 (x_fM_up (by omega))
          show ∃ P, x_Ct 210 (d + 7) [.ref 500, .int 9] (x_up F3 501 (nI gg + Int32.ofInt 1).toNatClampNeg (nI 10), G1, x_HR r t, dm, n) P ∧ _
          rw [← hF4']
          -- the end, once the stock u is known
          have fin : ∀ (u : Nat × Nat) F5, y_chc a m 9 999 10 x.2 = .inr u → x_RMt a m u.2 F5 → x_fM f g F5 G1 → F5 501 = va_up (va_up (va_up (f 501) gg (nI x.1)) (gg + 1) (nI 10)) (gg + 1) (nI u.1) → x_J 214 (d + 8) Po 84 [some (.ref 500), some (.int (nI gg))] [] (F5, G1, x_HR r t, dm, n) 0 0 := by
            intro u F5 e5 p5 n5 f5
            have k5 := y_chc_gt (by decide) (by decide) k3.1.2 e5
            rw [x_up2] at f5
            have v5 : F5 501 1857 = nI (S.1 1 0 0) := by rw [f5, x_un (by omega), x_un (by omega)]; exact h1
            refine x_wp_ok ok214 [] 6 ?_
            refine And.intro (by unfold x_ix; decide) ?_
            refine And.intro (by unfold x_ix; decide) ?_
            refine And.intro ?_ ⟨Or.inr rfl, Nat.le_refl _, Nat.le_refl _⟩
            rw [hPo]
            show x_PMd a m f g (x_HR r t) dm n (y_good1 a m S q) (some (.int 1)) (x_up F5 501 1857 (F5 501 1857 + Int32.ofInt 1), G1, x_HR r t, dm, n)
            rw [v5, nI_1o]
            refine x_PMd_r (w := ((v_set (v_set (v_set S.1 10 (S.1 1 0 0) 0 x.1) 11 (S.1 1 0 0) 0 u.1) 1 0 0 (S.1 1 0 0 + 1), y.1, S.2.2), u.2)) ((eY _ e1).trans ?_) (x_fM_t n5 (x_fM_up (by decide))) ⟨x_RMt_up p5, ?_, ⟨?_, fun i hi1 hi2 => ?_⟩, ?_⟩
            · show y_bd (y_wrd a m (nI 8) y.2) _ = _
              rw [e2]
              show y_bd (y_nbr a m 1 99 q3) _ = _
              rw [e3]
              show y_bd (y_chc a m 9 999 10 x.2) _ = _
              rw [e5]
              rfl
            · rw [x_up_c, f5]
              have e0 : v_set (v_set S.1 10 (S.1 1 0 0) 0 x.1) 11 (S.1 1 0 0) 0 u.1 1 0 0 = S.1 1 0 0 := (v_set_c (by decide)).trans (v_set_c (by decide))
              have vup : ∀ c, c = 10 ∨ c = 11 → v_all (v_set S.1 1 0 0 (S.1 1 0 0 + 1)) c (S.1 1 0 0) 0 := by
                intro c hc
                rcases hc with rfl | rfl
                · show S.1 1 0 0 < v_set S.1 1 0 0 (S.1 1 0 0 + 1) 1 0 0 ∧ 0 = 0
                  rw [v_set_s]
                  omega
                · show S.1 1 0 0 < v_set S.1 1 0 0 (S.1 1 0 0 + 1) 1 0 0 ∧ 0 = 0
                  rw [v_set_s]
                  omega
              have w := v_MA_up hS.2.1 (vp := v_set S.1 1 0 0 (S.1 1 0 0 + 1)) (fun c i j h => v_al_up (s := 1) (by decide) h) (by rw [v_set_c (by decide)]; omega) (by rw [v_set_s]; omega) (by rw [v_set_c (by decide)]; omega) (c := 10) (i := S.1 1 0 0) (j := 0) (x := x.1) (vup 10 (Or.inl rfl)) (by decide)
              have wb := v_MA_up w (vp := v_set S.1 1 0 0 (S.1 1 0 0 + 1)) (fun c i j h => v_al_up (s := 1) (by decide) ((v_al_set (by decide)).mp h)) (by rw [v_set_c (by decide)]; omega) (by rw [v_set_s]; omega) (by rw [v_set_c (by decide)]; omega) (c := 11) (i := S.1 1 0 0) (j := 0) (x := u.1) (vup 11 (Or.inr rfl)) (by decide)
              have ep : 1856 + v_pm 10 (S.1 1 0 0) 0 = gg := by
                show 1856 + (16 + 2 * S.1 1 0 0) = _
                omega
              have ep2 : 1856 + v_pm 11 (S.1 1 0 0) 0 = gg + 1 := by
                show 1856 + (17 + 2 * S.1 1 0 0) = _
                omega
              rw [ep, ep2] at wb
              have w2 := v_MA_more wb (s := 1) (by decide) (by rw [v_set_c (by decide), v_set_c (by decide), v_set_c (by decide)]; omega) (by rw [v_set_s, e0]; omega) (by rw [v_set_c (by decide), v_set_c (by decide), v_set_c (by decide)]; omega) (fun c hc => by
                rcases hc with ⟨h1, -⟩ | ⟨-, rfl | rfl⟩ | ⟨h1, -⟩
                · omega
                · rw [e0, ep, v_set_c (by decide), v_set_s, x_un (by omega), x_us]
                · rw [e0, ep2, v_set_s, x_us]
                · omega)
              rw [e0] at w2
              exact w2
            · rw [x_up_j (by decide), f5, x_un (by omega), x_un (by omega)]
              exact hS.2.2.1.1
            · rw [x_up_j (by omega), f5, x_un (by omega), x_un (by omega)]
              refine hS.2.2.1.2 i ?_ hi2
              have hi1 : v_set (v_set (v_set S.1 10 (S.1 1 0 0) 0 x.1) 11 (S.1 1 0 0) 0 u.1) 1 0 0 (S.1 1 0 0 + 1) 2 0 0 ≤ i := hi1
              rw [v_set_c (by decide), v_set_c (by decide), v_set_c (by decide)] at hi1
              exact hi1
            · have eN : (fun i => G1 502 (56 + i)) = va_up (fun i => g 502 (56 + i)) (4 + S.1 1 0 0) (y_lt a m (y_nxt a m q)) := by
                funext i
                rw [hG1, x_up_c]
                by_cases e : i = 4 + S.1 1 0 0
                · rw [e, x_us, x_us]
                · rw [x_un (by omega), x_un e]
              rw [eN, k1.2]
              refine y_NR_up hS.2.2.2 (fun i hi => Or.inl ?_) (fun i hi => ?_) (fun i hi => Or.inl ?_)
              · have hi : i < v_set (v_set (v_set S.1 10 (S.1 1 0 0) 0 x.1) 11 (S.1 1 0 0) 0 u.1) 1 0 0 (S.1 1 0 0 + 1) 0 0 0 := hi
                rw [v_set_c (by decide), v_set_c (by decide), v_set_c (by decide)] at hi
                exact hi
              · have hi : i < v_set (v_set (v_set S.1 10 (S.1 1 0 0) 0 x.1) 11 (S.1 1 0 0) 0 u.1) 1 0 0 (S.1 1 0 0 + 1) 1 0 0 := hi
                rw [v_set_s] at hi
                omega
              · have hi : i < v_set (v_set (v_set S.1 10 (S.1 1 0 0) 0 x.1) 11 (S.1 1 0 0) 0 u.1) 1 0 0 (S.1 1 0 0 + 1) 2 0 0 := hi
                rw [v_set_c (by decide), v_set_c (by decide), v_set_c (by decide)] at hi
                exact hi
          refine Exists.intro _ (And.intro (m_isThere (w := 9) (c := 9) rfl (by decide) hT p4) (And.intro (And.intro (Nat.zero_le _) (Nat.zero_le _)) (fun zq h' hpo => ?_)))
          by_cases k9 : y_wm a m x.2 = nI 9
          · rw [decide_eq_true k9, if_pos k9] at hpo
            obtain ⟨rfl, F5, rfl, o1, o2⟩ := hpo
            have eC : y_chc a m 9 999 10 x.2 = y_nbr a m 0 999 (y_nxt a m x.2) := if_pos k9
            refine And.intro (fun c => absurd (show (1 : Int32) = 0 from c) (by decide)) (fun _ => ?_)
            show ∃ P, x_Ct 204 (d + 7) [.ref 500, .int (nI gg + Int32.ofInt 1), .int (nI 0), .int (nI 999)] (F5, G1, x_HR r t, dm, n) P ∧ _
            rw [i1]
            refine Exists.intro _ (And.intro (m_number (to := gg + 1) (lo := 0) (hi := 999) (by omega) (by decide) (by decide) hT o2) (And.intro (And.intro (Nat.zero_le _) (Nat.zero_le _)) (fun zq h' hpo => ?_)))
            cases e4 : y_nbr a m 0 999 (y_nxt a m x.2) with
            | inl e =>
              obtain ⟨rfl, F6, rfl, l1, l2⟩ := x_PUm_l e4 hpo
              refine And.intro (fun c => absurd rfl c) (fun _ => ?_)
              refine And.intro ?_ ⟨Or.inl rfl, Nat.le_refl _, Nat.le_refl _⟩
              rw [hPo]
              refine x_PMd_l ((eY _ e1).trans ?_) (x_fM_t n4 (x_fM_t (x_fM_5 o1) (x_fM_5 l1))) l2
              show y_bd (y_wrd a m (nI 8) y.2) _ = _
              rw [e2]
              show y_bd (y_nbr a m 1 99 q3) _ = _
              rw [e3]
              show y_bd (y_chc a m 9 999 10 x.2) _ = _
              rw [eC, e4]
              rfl
            | inr u =>
              obtain ⟨rfl, F6, rfl, l2, l1⟩ := x_PUm_r e4 hpo
              refine And.intro (fun _ => ?_) (fun c => absurd (show (1 : Int32) = 0 from c) (by decide))
              refine fin u F6 (eC.trans e4) l2 (x_fM_t n4 (x_fM_t (x_fM_5 o1) (x_fM_t (x_fM_up (i := gg + 1) (x := nI u.1) (by omega)) (x_fM_5 l1)))) ?_
              rw [l1.1 501 (by decide), x_up_c, o1.1 501 (by decide), f4]
          · rw [decide_eq_false k9, if_neg k9] at hpo
            obtain ⟨rfl, F5, rfl, o1, o2⟩ := hpo
            refine And.intro (fun _ => ?_) (fun c => absurd rfl c)
            refine fin (10, x.2) F5 (if_neg k9) o2 (x_fM_t n4 (x_fM_5 o1)) ?_
            rw [o1.1 501 (by decide), f4, x_up2]
theorem m_aPerson (hT : y_TP a m) (hB : v_BA S.1) (hS : x_MS a m S q f g) (hw : y_sa a m q = 1) : x_Ct 215 (d + 8) [.ref 500] (f, g, x_HR r t, dm, n) (x_PMd a m f g (x_HR r t) dm n (y_pers1 a m S q)) := by
  obtain ⟨Po, hPo⟩ : ∃ Po : Option Value → xH → Prop, Po = x_PMd a m f g (x_HR r t) dm n (y_pers1 a m S q) := ⟨_, rfl⟩
  rw [← hPo]
  have h2 : f 501 1858 = nI (S.1 2 0 0) := hS.2.1.1 2 0 0 ⟨rfl, rfl⟩
  have b0 := v_BA_K hB
  have b1 := v_BA_G hB
  have b2 := v_BA_P hB
  obtain ⟨gg, hgg⟩ : ∃ gg, gg = 1882 + 14 * S.1 2 0 0 := ⟨_, rfl⟩
  refine x_Ct_w (by decide) (Nat.le_of_ble_eq_true rfl) ok215 [16] 6 ?_
  refine And.intro (by unfold x_ix; decide) ?_
  show x_J 215 (d + 8) Po 16 [some (.ref 500), some (.int (nI 1882 + nI 14 * f 501 1858))] [] (f, g, x_HR r t, dm, n) 0 0
  rw [h2, pk_mul, nI_add, ← hgg]
  refine x_wp_ok ok215 [52] 6 ?_
  refine Exists.intro _ (And.intro (m_newOne_2 hT hB hS hw) (And.intro (And.intro (Nat.zero_le _) (Nat.zero_le _)) (fun zq h' hpo => ?_)))
  by_cases c : S.1 2 0 0 = 5
  · rw [if_pos c] at hpo
    obtain ⟨rfl, F1, rfl, u1, u2⟩ := hpo
    refine And.intro (fun c => absurd rfl c) (fun _ => ?_)
    refine And.intro ?_ ⟨Or.inl rfl, Nat.le_refl _, Nat.le_refl _⟩
    rw [hPo]
    exact x_PMd_l (if_pos c) (x_fM_5 u1) u2
  · rw [if_neg c] at hpo
    have eY : ∀ Y, y_new a m S.2.1 (S.1 0 0 0) (S.1 1 0 0) (S.1 2 0 0) (9 + S.1 2 0 0) (y_nxt a m q) = Y → y_pers1 a m S q = y_bd Y (fun z => y_bd (y_chc a m 10 9999 0 z.2) (fun y => .inr ((v_set (v_set S.1 12 (S.1 2 0 0) 0 y.1) 2 0 0 (S.1 2 0 0 + 1), z.1, S.2.2), y.2))) := by
      intro Y hY
      unfold y_pers1
      rw [if_neg c, hY]
    cases e1 : y_new a m S.2.1 (S.1 0 0 0) (S.1 1 0 0) (S.1 2 0 0) (9 + S.1 2 0 0) (y_nxt a m q) with
    | inl e =>
      rw [e1] at hpo
      obtain ⟨rfl, F1, rfl, u1, u2⟩ := hpo
      refine And.intro (fun c => absurd rfl c) (fun _ => ?_)
      refine And.intro ?_ ⟨Or.inl rfl, Nat.le_refl _, Nat.le_refl _⟩
      rw [hPo]
      exact x_PMd_l (eY _ e1) (x_fM_5 u1) u2
    | inr y =>
      rw [e1] at hpo
      obtain ⟨rfl, F1, rfl, u1, u2⟩ := hpo
      have k1 := y_new_gt e1
      obtain ⟨G1, hG1⟩ : ∃ G1, G1 = x_up g 502 (56 + (9 + S.1 2 0 0)) (y_lt a m (y_nxt a m q)) := ⟨_, rfl⟩
      rw [← hG1]
      have n1 : x_fM f g F1 G1 := by
        rw [hG1]
        exact x_fM_t (x_fM_gp (by omega)) (x_fM_5 u1)
      have e501 : F1 501 = f 501 := u1.1 501 (by decide)
      have fin : ∀ (u : Nat × Nat) F5, y_chc a m 10 9999 0 y.2 = .inr u → x_RMt a m u.2 F5 → x_fM f g F5 G1 → F5 501 = va_up (f 501) gg (nI u.1) → x_J 215 (d + 8) Po 52 [some (.ref 500), some (.int (nI gg))] [] (F5, G1, x_HR r t, dm, n) 0 0 := by
        intro u F5 e5 p5 n5 f5
        have k5 := y_chc_gt (by decide) (by decide) k1.1.2 e5
        have v5 : F5 501 1858 = nI (S.1 2 0 0) := by rw [f5, x_un (by omega)]; exact h2
        refine x_wp_ok ok215 [] 6 ?_
        refine And.intro (by unfold x_ix; decide) ?_
        refine And.intro (by unfold x_ix; decide) ?_
        refine And.intro ?_ ⟨Or.inr rfl, Nat.le_refl _, Nat.le_refl _⟩
        rw [hPo]
        show x_PMd a m f g (x_HR r t) dm n (y_pers1 a m S q) (some (.int 1)) (x_up F5 501 1858 (F5 501 1858 + Int32.ofInt 1), G1, x_HR r t, dm, n)
        rw [v5, nI_1o]
        refine x_PMd_r (w := ((v_set (v_set S.1 12 (S.1 2 0 0) 0 u.1) 2 0 0 (S.1 2 0 0 + 1), y.1, S.2.2), u.2)) ((eY _ e1).trans ?_) (x_fM_t n5 (x_fM_up (by decide))) ⟨x_RMt_up p5, ?_, ⟨?_, fun i hi1 hi2 => ?_⟩, ?_⟩
        · show y_bd (y_chc a m 10 9999 0 y.2) _ = _
          rw [e5]
          rfl
        · rw [x_up_c, f5]
          have e0 : v_set S.1 12 (S.1 2 0 0) 0 u.1 2 0 0 = S.1 2 0 0 := v_set_c (by decide)
          have w := v_MA_up hS.2.1 (vp := v_set S.1 2 0 0 (S.1 2 0 0 + 1)) (fun c i j h => v_al_up (s := 2) (by decide) h) (by rw [v_set_c (by decide)]; omega) (by rw [v_set_c (by decide)]; omega) (by rw [v_set_s]; omega) (c := 12) (i := S.1 2 0 0) (j := 0) (x := u.1) (by
            show S.1 2 0 0 < v_set S.1 2 0 0 (S.1 2 0 0 + 1) 2 0 0 ∧ 0 = 0
            rw [v_set_s]
            omega) (by decide)
          have ep : 1856 + v_pm 12 (S.1 2 0 0) 0 = gg := by
            show 1856 + (26 + 14 * S.1 2 0 0) = _
            omega
          rw [ep] at w
          have w2 := v_MA_more w (s := 2) (by decide) (by rw [v_set_c (by decide), v_set_c (by decide)]; omega) (by rw [v_set_c (by decide), v_set_c (by decide)]; omega) (by rw [v_set_s, e0]; omega) (fun c hc => by
            rcases hc with ⟨h1, -⟩ | ⟨h1, -⟩ | ⟨-, rfl⟩
            · omega
            · omega
            · rw [e0, ep, v_set_s, x_us])
          rw [e0] at w2
          exact w2
        · rw [x_up_j (by decide), f5, x_un (by omega)]
          exact hS.2.2.1.1
        · have hi1 : v_set (v_set S.1 12 (S.1 2 0 0) 0 u.1) 2 0 0 (S.1 2 0 0 + 1) 2 0 0 ≤ i := hi1
          rw [v_set_s] at hi1
          rw [x_up_j (by omega), f5, x_un (by omega)]
          exact hS.2.2.1.2 i (by omega) hi2
        · have eN : (fun i => G1 502 (56 + i)) = va_up (fun i => g 502 (56 + i)) (9 + S.1 2 0 0) (y_lt a m (y_nxt a m q)) := by
            funext i
            rw [hG1, x_up_c]
            by_cases e : i = 9 + S.1 2 0 0
            · rw [e, x_us, x_us]
            · rw [x_un (by omega), x_un e]
          rw [eN, k1.2]
          refine y_NR_up hS.2.2.2 (fun i hi => Or.inl ?_) (fun i hi => Or.inl ?_) (fun i hi => ?_)
          · have hi : i < v_set (v_set S.1 12 (S.1 2 0 0) 0 u.1) 2 0 0 (S.1 2 0 0 + 1) 0 0 0 := hi
            rw [v_set_c (by decide), v_set_c (by decide)] at hi
            exact hi
          · have hi : i < v_set (v_set S.1 12 (S.1 2 0 0) 0 u.1) 2 0 0 (S.1 2 0 0 + 1) 1 0 0 := hi
            rw [v_set_c (by decide), v_set_c (by decide)] at hi
            exact hi
          · have hi : i < v_set (v_set S.1 12 (S.1 2 0 0) 0 u.1) 2 0 0 (S.1 2 0 0 + 1) 2 0 0 := hi
            rw [v_set_s] at hi
            omega
      refine And.intro (fun _ => ?_) (fun c => absurd (show (1 : Int32) = 0 from c) (by decide))
      refine Exists.intro _ (And.intro (m_isThere (w := 10) (c := 10) rfl (by decide) hT u2) (And.intro (And.intro (Nat.zero_le _) (Nat.zero_le _)) (fun zq h' hpo => ?_)))
      by_cases k9 : y_wm a m y.2 = nI 10
      · rw [decide_eq_true k9, if_pos k9] at hpo
        obtain ⟨rfl, F5, rfl, o1, o2⟩ := hpo
        have eC : y_chc a m 10 9999 0 y.2 = y_nbr a m 0 9999 (y_nxt a m y.2) := if_pos k9
        refine And.intro (fun c => absurd (show (1 : Int32) = 0 from c) (by decide)) (fun _ => ?_)
        refine Exists.intro _ (And.intro (m_number (to := gg) (lo := 0) (hi := 9999) (by omega) (by decide) (by decide) hT o2) (And.intro (And.intro (Nat.zero_le _) (Nat.zero_le _)) (fun zq h' hpo => ?_)))
        cases e4 : y_nbr a m 0 9999 (y_nxt a m y.2) with
        | inl e =>
          obtain ⟨rfl, F6, rfl, l1, l2⟩ := x_PUm_l e4 hpo
          refine And.intro (fun c => absurd rfl c) (fun _ => ?_)
          refine And.intro ?_ ⟨Or.inl rfl, Nat.le_refl _, Nat.le_refl _⟩
          rw [hPo]
          refine x_PMd_l ((eY _ e1).trans ?_) (x_fM_t n1 (x_fM_t (x_fM_5 o1) (x_fM_5 l1))) l2
          show y_bd (y_chc a m 10 9999 0 y.2) _ = _
          rw [eC, e4]
          rfl
        | inr u =>
          obtain ⟨rfl, F6, rfl, l2, l1⟩ := x_PUm_r e4 hpo
          refine And.intro (fun _ => ?_) (fun c => absurd (show (1 : Int32) = 0 from c) (by decide))
          refine fin u F6 (eC.trans e4) l2 (x_fM_t n1 (x_fM_t (x_fM_5 o1) (x_fM_t (x_fM_up (i := gg) (x := nI u.1) (by omega)) (x_fM_5 l1)))) ?_
          rw [l1.1 501 (by decide), x_up_c, o1.1 501 (by decide), e501]
      · rw [decide_eq_false k9, if_neg k9] at hpo
        obtain ⟨rfl, F5, rfl, o1, o2⟩ := hpo
        refine And.intro (fun _ => ?_) (fun c => absurd rfl c)
        refine fin (0, y.2) F5 (if_neg k9) o2 (x_fM_t n1 (x_fM_5 o1)) ?_
        rw [o1.1 501 (by decide), e501]
        funext i
        by_cases e : i = gg
        · rw [e, x_us, hgg]
          exact hS.2.2.1.2 _ (Nat.le_refl _) (by omega)
        · rw [x_un e]
theorem m_hisSheets (hT : y_TP a m) (hB : v_BA S.1) (hS : x_MS a m S q f g) (hw : y_sa a m q = 1) : x_Ct 216 (d + 8) [.ref 500] (f, g, x_HR r t, dm, n) (x_PMd a m f g (x_HR r t) dm n (y_has1 a m S q)) := by
  obtain ⟨Po, hPo⟩ : ∃ Po : Option Value → xH → Prop, Po = x_PMd a m f g (x_HR r t) dm n (y_has1 a m S q) := ⟨_, rfl⟩
  rw [← hPo]
  have h0 : f 501 1856 = nI (S.1 0 0 0) := hS.2.1.1 0 0 0 ⟨rfl, rfl⟩
  have h2 : f 501 1858 = nI (S.1 2 0 0) := hS.2.1.1 2 0 0 ⟨rfl, rfl⟩
  have b0 := v_BA_K hB
  have b1 := v_BA_G hB
  have b2 := v_BA_P hB
  have no : ∀ F G, Po (some (.int 0)) (F, G, x_HR r t, dm, n) → x_J 216 (d + 8) Po 85 [some (.ref 500), some (.int (nI 2312))] [] (F, G, x_HR r t, dm, n) 0 0 := by
    intro F G h
    refine x_wp_ok ok216 [] 6 ?_
    refine And.intro ?_ ⟨Or.inl rfl, Nat.le_refl _, Nat.le_refl _⟩
    exact h
  have fr : ∀ {f1 F1 : Nat → Nat → Int32} {to : Nat}, 1856 ≤ to ∧ to < 2320 → (x_f5 f1 F1 ∨ ∃ x, x_f5 (x_up f1 501 to x) F1) → x_fM f1 g F1 g := by
    intro f1 F1 to hto h
    rcases h with h | ⟨x, h⟩
    · exact x_fM_5 h
    · exact x_fM_t (x_fM_up hto) (x_fM_5 h)
  refine x_Ct_w (by decide) (Nat.le_of_ble_eq_true rfl) ok216 [85] 6 ?_
  refine Exists.intro _ (And.intro (m_ahd hT hS.1 (by rw [hw]; decide)) (And.intro (And.intro (Nat.zero_le _) (Nat.zero_le _)) (fun zq h' hpo => ?_)))
  obtain ⟨rfl, F1, rfl, u1, -, u3⟩ := hpo
  have e1 : F1 501 = f 501 := u1.1 501 (by decide)
  refine And.intro (by unfold x_ix; decide) ?_
  show ∃ P, x_Ct 212 (d + 7) [.ref 500, .int (nI 65), .int (F1 501 1858), .int (nI 2312)] (F1, g, x_HR r t, dm, n) P ∧ _
  rw [e1, h2]
  refine Exists.intro _ (And.intro (m_oldOne (b := 65) (M := S.1 2 0 0) (to := 2312) (N := S.2.1) (b' := 9) (by decide) (by omega) (by omega) hT u3 (y_NRm_9 hS.2.2.2 _)) (And.intro (And.intro (Nat.zero_le _) (Nat.zero_le _)) (fun zq h' hpo => ?_)))
  cases c1 : y_old a m S.2.1 9 (S.1 2 0 0) (y_nxt a m q) with
  | inl e =>
    rw [c1] at hpo
    obtain ⟨rfl, F2, rfl, w1, w2⟩ := hpo
    refine And.intro (fun _ => ?_) (fun c => absurd rfl c)
    refine no F2 g ?_
    rw [hPo]
    refine x_PMd_l ?_ (x_fM_t (x_fM_5 u1) (fr (by decide) w1)) w2
    unfold y_has1
    rw [c1]
    rfl
  | inr y =>
    rw [c1] at hpo
    obtain ⟨rfl, F2, rfl, w2, w1⟩ := hpo
    have k1 := y_old_gt c1
    have e2 : F2 501 = va_up (f 501) 2312 (nI y.1) := by rw [w1.1 501 (by decide), x_up_c, e1]
    have n2 : x_fM f g F2 g := x_fM_t (x_fM_5 u1) (x_fM_t (x_fM_up (i := 2312) (x := nI y.1) (by decide)) (x_fM_5 w1))
    refine And.intro (fun c => absurd (show (1 : Int32) = 0 from c) (by decide)) (fun _ => ?_)
    refine And.intro (by unfold x_ix; decide) ?_
    show ∃ P, x_Ct 212 (d + 7) [.ref 500, .int (nI 56), .int (F2 501 1856), .int (nI 2313)] (F2, g, x_HR r t, dm, n) P ∧ _
    rw [e2, x_un (show (1856 : Nat) ≠ 2312 by decide), h0]
    refine Exists.intro _ (And.intro (m_oldOne (b := 56) (M := S.1 0 0 0) (to := 2313) (N := S.2.1) (b' := 0) (by decide) (by omega) (by omega) hT w2 (y_NRm_0 hS.2.2.2 _)) (And.intro (And.intro (Nat.zero_le _) (Nat.zero_le _)) (fun zq h' hpo => ?_)))
    cases c2 : y_old a m S.2.1 0 (S.1 0 0 0) y.2 with
    | inl e =>
      rw [c2] at hpo
      obtain ⟨rfl, F3, rfl, p1, p2⟩ := hpo
      refine And.intro (fun _ => ?_) (fun c => absurd rfl c)
      refine no F3 g ?_
      rw [hPo]
      refine x_PMd_l ?_ (x_fM_t n2 (fr (by decide) p1)) p2
      unfold y_has1
      rw [c1]
      show y_bd (y_old a m S.2.1 0 (S.1 0 0 0) y.2) _ = _
      rw [c2]
      rfl
    | inr u =>
      rw [c2] at hpo
      obtain ⟨rfl, F3, rfl, p2, p1⟩ := hpo
      have k2 := y_old_gt c2
      have e3 : F3 501 = va_up (va_up (f 501) 2312 (nI y.1)) 2313 (nI u.1) := by rw [p1.1 501 (by decide), x_up_c, e2]
      have n3 : x_fM f g F3 g := x_fM_t n2 (x_fM_t (x_fM_up (i := 2313) (x := nI u.1) (by decide)) (x_fM_5 p1))
      refine And.intro (fun c => absurd (show (1 : Int32) = 0 from c) (by decide)) (fun _ => ?_)
      refine And.intro (by unfold x_ix; decide) ?_
      refine And.intro (by unfold x_ix; decide) ?_
      show ∃ P, x_Ct 204 (d + 7) [.ref 500, .int (nI 1882 + nI 14 * F3 501 2312 + nI 1 + F3 501 2313), .int (nI 0), .int (nI 999)] (F3, g, x_HR r t, dm, n) P ∧ _
      rw [e3, x_us, x_un (show (2312 : Nat) ≠ 2313 by decide), x_us, pk_mul, nI_add, nI_add, nI_add]
      refine Exists.intro _ (And.intro (m_number (to := 1882 + 14 * y.1 + 1 + u.1) (lo := 0) (hi := 999) (by omega) (by decide) (by decide) hT p2) (And.intro (And.intro (Nat.zero_le _) (Nat.zero_le _)) (fun zq h' hpo => ?_)))
      cases c3 : y_nbr a m 0 999 u.2 with
      | inl e =>
        obtain ⟨rfl, F4, rfl, o1, o2⟩ := x_PUm_l c3 hpo
        refine And.intro (fun _ => ?_) (fun c => absurd rfl c)
        refine no F4 g ?_
        rw [hPo]
        refine x_PMd_l ?_ (x_fM_t n3 (x_fM_5 o1)) o2
        unfold y_has1
        rw [c1]
        show y_bd (y_old a m S.2.1 0 (S.1 0 0 0) y.2) _ = _
        rw [c2]
        show y_bd (y_nbr a m 0 999 u.2) _ = _
        rw [c3]
        rfl
      | inr x =>
        obtain ⟨rfl, F4, rfl, o2, o1⟩ := x_PUm_r c3 hpo
        have k3 := y_nbr_gt c3
        have e4 : F4 501 = va_up (va_up (va_up (f 501) 2312 (nI y.1)) 2313 (nI u.1)) (1882 + 14 * y.1 + 1 + u.1) (nI x.1) := by rw [o1.1 501 (by decide), x_up_c, e3]
        refine And.intro (fun c => absurd (show (1 : Int32) = 0 from c) (by decide)) (fun _ => ?_)
        refine And.intro ?_ ⟨Or.inr rfl, Nat.le_refl _, Nat.le_refl _⟩
        rw [hPo]
        refine x_PMd_r (w := ((v_set S.1 13 y.1 u.1 x.1, S.2.1, S.2.2), x.2)) ?_ (x_fM_t n3 (x_fM_t (x_fM_up (i := 1882 + 14 * y.1 + 1 + u.1) (x := nI x.1) (by omega)) (x_fM_5 o1))) ⟨o2, ?_, ⟨?_, fun i hi1 hi2 => ?_⟩, ?_⟩
        · unfold y_has1
          rw [c1]
          show y_bd (y_old a m S.2.1 0 (S.1 0 0 0) y.2) _ = _
          rw [c2]
          show y_bd (y_nbr a m 0 999 u.2) _ = _
          rw [c3]
          rfl
        · rw [e4]
          have w0 : v_MA (va_up (va_up (f 501) 2312 (nI y.1)) 2313 (nI u.1)) 1856 S.1 := v_MA_cg hS.2.1 hB (fun j j1 j2 => by rw [x_un (by omega), x_un (by omega)])
          have w := v_MA_up w0 (fun _ _ _ h => h) b0 b1 b2 (c := 13) (i := y.1) (j := u.1) (x := x.1) (show y.1 < 5 ∧ u.1 < 4 by omega) (by decide)
          have ep : 1856 + v_pm 13 y.1 u.1 = 1882 + 14 * y.1 + 1 + u.1 := by
            show 1856 + (27 + 14 * y.1 + u.1) = _
            omega
          rw [ep] at w
          exact w
        · rw [e4, x_un (by omega), x_un (by decide), x_un (by decide)]
          exact hS.2.2.1.1
        · have hi1 : v_set S.1 13 y.1 u.1 x.1 2 0 0 ≤ i := hi1
          rw [v_set_c (by decide)] at hi1
          rw [e4, x_un (by omega), x_un (by omega), x_un (by omega)]
          exact hS.2.2.1.2 i hi1 hi2
        · exact y_NR_v hS.2.2.2 (show v_set S.1 13 y.1 u.1 x.1 0 0 0 = S.1 0 0 0 from v_set_c (by decide)) (show v_set S.1 13 y.1 u.1 x.1 1 0 0 = S.1 1 0 0 from v_set_c (by decide)) (show v_set S.1 13 y.1 u.1 x.1 2 0 0 = S.1 2 0 0 from v_set_c (by decide))
end C90
