/-! goods, people, sheets: the class reads them -/
section C81
variable {f : Nat → Nat → Int32} {g : Nat → Nat → Int64} {r t : Nat} {dm : List Nat} {n d L : Nat} {v : xV} {a : Nat → Int32} {m q : Nat} {N : Nat → Int64} {S : xL} {ρ : Nat → Nat → Option Nat} {X : xF (xL × Nat)} {z : Option Value} {h' : xH} {e : Nat × Nat} {w : xL × Nat} {F : Nat → Nat → Int32} {G : Nat → Nat → Int64}
theorem c_readGood_22 (hT : y_TP a m) (hB : v_BA S.1) (hS : x_LS 22 a m S q f g) (hw : y_sa a m q = 1) : x_Ct 39 (d + 4) [.ref 600] (f, g, x_HR 12 t, dm, n) (x_PLd 22 a m f g (x_HR 12 t) dm n (y_good a m S q)) := by
  obtain ⟨Po, hPo⟩ : ∃ Po : Option Value → xH → Prop, Po = x_PLd 22 a m f g (x_HR 12 t) dm n (y_good a m S q) := ⟨_, rfl⟩
  rw [← hPo]
  have hL : (22 : Nat) = 12 ∨ (22 : Nat) = 22 := by decide
  have h0 : f 22 0 = nI (S.1 0 0 0) := hS.2.1.1 0 0 0 ⟨rfl, rfl⟩
  have h1 : f 22 1 = nI (S.1 1 0 0) := hS.2.1.1 1 0 0 ⟨rfl, rfl⟩
  have h2 : f 22 2 = nI (S.1 2 0 0) := hS.2.1.1 2 0 0 ⟨rfl, rfl⟩
  have b0 := v_BA_K hB
  have b1 := v_BA_G hB
  have b2 := v_BA_P hB
  have hn := y_nxt_gt (a := a) (m := m) (q := q) (by rw [hw]; decide)
  refine x_Ct_w (by decide) (Nat.le_of_ble_eq_true rfl) ok39 [8] 6 ?_
  show x_J 39 (d + 4) Po 8 [some (.ref 600), some (.int (f 22 1))] [] (f, g, x_HR 12 t, dm, n) 0 0
  rw [h1]
  have no : ∀ F G, Po (some (.int 0)) (F, G, x_HR 12 t, dm, n) → x_J 39 (d + 4) Po 72 [some (.ref 600), some (.int (nI (S.1 1 0 0)))] [] (F, G, x_HR 12 t, dm, n) 0 0 := by
    intro F G h
    refine x_wp_ok ok39 [] 6 ?_
    refine And.intro ?_ ⟨Or.inl rfl, Nat.le_refl _, Nat.le_refl _⟩
    exact h
  refine x_wp_ok ok39 [72] 6 ?_
  by_cases c : S.1 1 0 0 = 5
  · refine And.intro (fun k => absurd (show nI (S.1 1 0 0) < nI 5 from k) (nI_nlt (by omega) (by omega))) (fun _ => ?_)
    refine Exists.intro _ (And.intro (c_fail (k := 6) hS.1) (And.intro (And.intro (Nat.zero_le _) (Nat.zero_le _)) (fun zq h' hpo => ?_)))
    obtain ⟨rfl, F1, rfl, u1, u2⟩ := hpo
    refine And.intro ?_ ⟨Or.inl rfl, Nat.le_refl _, Nat.le_refl _⟩
    rw [hPo]
    exact x_PLd_l (if_pos c) (x_fL_10 u1) u2 (v_CA_10 hL u1 hS.2.1) hB
  · refine And.intro (fun _ => ?_) (fun k => absurd (show nI (S.1 1 0 0) < nI 5 from nI_lt (by omega) (by decide)) k)
    have eY : ∀ Y, y_new a m S.2.1 (S.1 0 0 0) (S.1 1 0 0) (S.1 2 0 0) (4 + S.1 1 0 0) (y_nxt a m q) = Y → y_good a m S q = y_bd Y (fun z => y_bd (y_wrd a m 8 z.2) (fun q2 => y_bd (y_nbr a m 1 99 q2) (fun x => y_bd (y_chc a m 9 999 10 x.2) (fun y => y_bd (y_sgn a m 59 y.2) (fun q3 => .inr ((v_set (v_set (v_set S.1 10 (S.1 1 0 0) 0 x.1) 11 (S.1 1 0 0) 0 y.1) 1 0 0 (S.1 1 0 0 + 1), z.1, S.2.2), q3)))))) := by
      intro Y hY
      unfold y_good
      rw [if_neg c, hY]
    refine Exists.intro _ (And.intro (c_adv hT hS.1 (by rw [hw]; decide) (by rw [hw]; decide)) (And.intro (And.intro (Nat.zero_le _) (Nat.zero_le _)) (fun zq h' hpo => ?_)))
    obtain ⟨rfl, F1, G1, rfl, u1, -, u3⟩ := hpo
    have s1 := x_LS_10 hL hS u1 u3
    show ∃ P, x_Ct 91 (d + 3) [.ref 10, .ref 22, .int (nI 4 + nI (S.1 1 0 0))] (F1, G1, x_HR 12 t, dm, n) P ∧ _
    rw [nI_add]
    refine Exists.intro _ (And.intro (c_takeNewName_22 (v := S.1) (N := S.2.1) hT hn.2 u3 (by omega) (by rw [u1.1 22 (by decide)]; exact h0) (by rw [u1.1 22 (by decide)]; exact h1) (by rw [u1.1 22 (by decide)]; exact h2) b0 b1 b2 s1.2.2.1) (And.intro (And.intro (Nat.zero_le _) (Nat.zero_le _)) (fun zq h' hpo => ?_)))
    cases e1 : y_new a m S.2.1 (S.1 0 0 0) (S.1 1 0 0) (S.1 2 0 0) (4 + S.1 1 0 0) (y_nxt a m q) with
    | inl e =>
      obtain ⟨rfl, F2, G2, rfl, w1, w2⟩ := x_PNn_l e1 hpo
      refine And.intro (fun _ => ?_) (fun c => absurd rfl c)
      refine no F2 G2 ?_
      rw [hPo]
      exact x_PLd_l (eY _ e1) (x_fL_t (x_fL_10 u1) (x_fL_10 w1)) w2 (v_CA_10 hL w1 s1.2.1) hB
    | inr y =>
      obtain ⟨rfl, F2, G2, rfl, w1, w2⟩ := x_PNn_r e1 hpo
      have k1 := y_new_gt e1
      have n2 : x_fL 22 f g F2 G2 := x_fL_t (x_fL_10 u1) (x_fL_t (x_fL_gp (by decide)) (x_fL_10 w1))
      have c2 : v_CA F2 G2 22 S.1 := v_CA_10 hL w1 (v_CA_n s1.2.1)
      have g2 : G2 24 = va_up (G1 24) (4 + S.1 1 0 0) (y_lt a m (y_nxt a m q)) := by rw [w1.2 24 (by decide)]; exact x_up_c
      have t2 : F2 601 = f 601 := (w1.1 601 (by decide)).trans (u1.1 601 (by decide))
      refine And.intro (fun c => absurd (show (1 : Int32) = 0 from c) (by decide)) (fun _ => ?_)
      refine Exists.intro _ (And.intro (c_takeWord (w := 8) (c := 6) rfl (by decide) hT w2) (And.intro (And.intro (Nat.zero_le _) (Nat.zero_le _)) (fun zq h' hpo => ?_)))
      cases e2 : y_wrd a m (nI 8) y.2 with
      | inl e =>
        obtain ⟨rfl, F3, G3, rfl, p1, p2⟩ := x_PT_l e2 hpo
        refine And.intro (fun _ => ?_) (fun c => absurd rfl c)
        refine no F3 G3 ?_
        rw [hPo]
        refine x_PLd_l ((eY _ e1).trans ?_) (x_fL_t n2 (x_fL_10 p1)) p2 (v_CA_10 hL p1 c2) hB
        show y_bd (y_wrd a m (nI 8) y.2) _ = _
        rw [e2]
        rfl
      | inr q3 =>
        obtain ⟨rfl, F3, G3, rfl, p1, p2⟩ := x_PT_r e2 hpo
        refine And.intro (fun c => absurd (show (1 : Int32) = 0 from c) (by decide)) (fun _ => ?_)
        refine Exists.intro _ (And.intro (c_takeNumber (lo := 1) (hi := 99) (by decide) (by decide) hT p2.1) (And.intro (And.intro (Nat.zero_le _) (Nat.zero_le _)) (fun zq h' hpo => ?_)))
        cases e3 : y_nbr a m 1 99 q3 with
        | inl e =>
          obtain ⟨rfl, F4, G4, rfl, o1, o2⟩ := x_PT_l e3 hpo
          refine And.intro (fun c => absurd rfl c) (fun _ => ?_)
          refine no F4 G4 ?_
          rw [hPo]
          refine x_PLd_l ((eY _ e1).trans ?_) (x_fL_t n2 (x_fL_t (x_fL_10 p1) (x_fL_10 o1))) o2 (v_CA_10 hL o1 (v_CA_10 hL p1 c2)) hB
          show y_bd (y_wrd a m (nI 8) y.2) _ = _
          rw [e2]
          show y_bd (y_nbr a m 1 99 q3) _ = _
          rw [e3]
          rfl
        | inr x =>
          obtain ⟨rfl, F4, G4, rfl, o1, o2, o3⟩ := x_PT_r e3 hpo
          have k3 := y_nbr_gt e3
          have c4 := v_CA_10 hL o1 (v_CA_10 hL p1 c2)
          have n4 := x_fL_t n2 (x_fL_t (x_fL_10 p1) (x_fL_10 o1))
          have t4 : F4 601 = f 601 := (o1.1 601 (by decide)).trans ((p1.1 601 (by decide)).trans t2)
          have g4 : G4 24 = va_up (G1 24) (4 + S.1 1 0 0) (y_lt a m (y_nxt a m q)) := by rw [o1.2 24 (by decide), p1.2 24 (by decide)]; exact g2
          refine And.intro (fun _ => ?_) (fun c => absurd (show (1 : Int32) = 0 from c) (by decide))
          refine And.intro (x_ix_nI (by omega) (by omega)) ?_
          obtain ⟨F5, hF5⟩ : ∃ F5, F5 = x_up F4 26 (S.1 1 0 0) (nI x.1) := ⟨_, rfl⟩
          have hR5 : x_RC a m x.2 F5 G4 := by
            rw [hF5]
            exact o2
          have f5 : x_fL 22 F4 G4 F5 G4 := by
            rw [hF5]
            exact x_fL_up (Or.inr (by decide))
          have b5 : v_BA (v_set S.1 10 (S.1 1 0 0) 0 x.1) := v_BA_set hB (by decide) (by decide) (by decide) (by decide) (by decide) (by decide) k3.2.1 k3.2.2
          have vup : ∀ c, c = 10 ∨ c = 11 → v_all (v_set S.1 1 0 0 (S.1 1 0 0 + 1)) c (S.1 1 0 0) 0 := by
            intro c hc
            rcases hc with rfl | rfl
            · show S.1 1 0 0 < v_set S.1 1 0 0 (S.1 1 0 0 + 1) 1 0 0 ∧ 0 = 0
              rw [v_set_s]
              omega
            · show S.1 1 0 0 < v_set S.1 1 0 0 (S.1 1 0 0 + 1) 1 0 0 ∧ 0 = 0
              rw [v_set_s]
              omega
          have c5 : v_CA F5 G4 22 (v_set S.1 10 (S.1 1 0 0) 0 x.1) := by
            rw [hF5]
            exact v_CA_set c4 (vp := v_set S.1 1 0 0 (S.1 1 0 0 + 1)) (fun c i j h => v_al_up (s := 1) (by decide) h) (by rw [v_set_c (by decide)]; omega) (by rw [v_set_s]; omega) (c := 10) (i := S.1 1 0 0) (j := 0) (x := x.1) (vup 10 (Or.inl rfl)) (by decide)
          have hF5' : F5 = x_up F4 26 (nI (S.1 1 0 0)).toNatClampNeg (F4 10 9) := by rw [hF5, nI_clamp (by omega), o3]
          show ∃ P, x_Ct 41 (d + 3) [.ref 600, .int 7, .int (nI 999), .int (nI 10)] (x_up F4 26 (nI (S.1 1 0 0)).toNatClampNeg (F4 10 9), G4, x_HR 12 t, dm, n) P ∧ _
          rw [← hF5']
          refine Exists.intro _ (And.intro (c_readChoice_22 (w := 9) (hi := 999) (df := 10) rfl (by decide) (by decide) hT hR5) (And.intro (And.intro (Nat.zero_le _) (Nat.zero_le _)) (fun zq h' hpo => ?_)))
          cases e5 : y_chc a m (nI 9) 999 10 x.2 with
          | inl e =>
            obtain ⟨rfl, F6, G6, rfl, l1, l2⟩ := x_PT_l e5 hpo
            refine And.intro (fun c => absurd rfl c) (fun _ => ?_)
            refine And.intro ?_ ⟨Or.inl rfl, Nat.le_refl _, Nat.le_refl _⟩
            rw [hPo]
            refine x_PLd_l ((eY _ e1).trans ?_) (x_fL_t n4 (x_fL_t f5 (x_fL_10 l1))) l2 (v_CA_10 hL l1 c5) b5
            show y_bd (y_wrd a m (nI 8) y.2) _ = _
            rw [e2]
            show y_bd (y_nbr a m 1 99 q3) _ = _
            rw [e3]
            show y_bd (y_chc a m (nI 9) 999 10 x.2) _ = _
            rw [e5]
            rfl
          | inr u =>
            obtain ⟨rfl, F6, G6, rfl, l1, l2, l3⟩ := x_PT_r e5 hpo
            have k5 := y_chc_gt (by decide) (by decide) k3.1.2 e5
            have c6 := v_CA_10 hL l1 c5
            have hG6 : F6 22 1 = nI (S.1 1 0 0) := (c6.1 1 0 0 ⟨rfl, rfl⟩).trans (congrArg nI (v_set_c (by decide)))
            refine And.intro (fun _ => ?_) (fun c => absurd (show (1 : Int32) = 0 from c) (by decide))
            refine And.intro (x_ix_nI (by omega) (by omega)) ?_
            obtain ⟨F7, hF7⟩ : ∃ F7, F7 = x_up (x_up F6 27 (S.1 1 0 0) (nI u.1)) 22 1 (nI (S.1 1 0 0 + 1)) := ⟨_, rfl⟩
            have hR7 : x_RC a m u.2 F7 G6 := by
              rw [hF7]
              exact l2
            have f7 : x_fL 22 F6 G6 F7 G6 := by
              rw [hF7]
              exact x_fL_t (x_fL_up (Or.inr (by decide))) (x_fL_up (Or.inr (by decide)))
            have b6 : v_BA (v_set (v_set S.1 10 (S.1 1 0 0) 0 x.1) 11 (S.1 1 0 0) 0 u.1) := v_BA_set b5 (by decide) (by decide) (by decide) (by decide) (by decide) (by decide) (Nat.zero_le _) (Nat.le_trans k5.2 (by decide))
            have e0 : v_set (v_set S.1 10 (S.1 1 0 0) 0 x.1) 11 (S.1 1 0 0) 0 u.1 1 0 0 = S.1 1 0 0 := (v_set_c (by decide)).trans (v_set_c (by decide))
            have e10 : v_set (v_set S.1 10 (S.1 1 0 0) 0 x.1) 11 (S.1 1 0 0) 0 u.1 10 (S.1 1 0 0) 0 = x.1 := (v_set_c (by decide)).trans (v_set_s _ _ _ _ _)
            have e11 : v_set (v_set S.1 10 (S.1 1 0 0) 0 x.1) 11 (S.1 1 0 0) 0 u.1 11 (S.1 1 0 0) 0 = u.1 := v_set_s _ _ _ _ _
            have hB7 : v_BA (v_set (v_set (v_set S.1 10 (S.1 1 0 0) 0 x.1) 11 (S.1 1 0 0) 0 u.1) 1 0 0 (S.1 1 0 0 + 1)) := by
              have w := v_BA_more b6 (s := 1) (by decide) (by rw [e0]; show S.1 1 0 0 < 5; omega) (fun c hc => by
                rcases hc with ⟨h1, -⟩ | ⟨-, rfl | rfl⟩ | ⟨h1, -⟩
                · omega
                · rw [e0, e10]
                  exact k3.2
                · rw [e0, e11]
                  exact ⟨Nat.zero_le _, Nat.le_trans k5.2 (by decide)⟩
                · omega)
              rw [e0] at w
              exact w
            have c7 : v_CA F7 G6 22 (v_set (v_set (v_set S.1 10 (S.1 1 0 0) 0 x.1) 11 (S.1 1 0 0) 0 u.1) 1 0 0 (S.1 1 0 0 + 1)) := by
              have w := v_CA_set c6 (vp := v_set S.1 1 0 0 (S.1 1 0 0 + 1)) (fun c i j h => v_al_up (s := 1) (by decide) ((v_al_set (by decide)).mp h)) (by rw [v_set_c (by decide)]; omega) (by rw [v_set_s]; omega) (c := 11) (i := S.1 1 0 0) (j := 0) (x := u.1) (vup 11 (Or.inr rfl)) (by decide)
              have w2 := v_CA_more w (s := 1) (by decide) (by rw [v_set_c (by decide), v_set_c (by decide)]; exact b0) (by rw [e0]; exact b1) (fun c hc => by
                rcases hc with ⟨h1, -⟩ | ⟨-, rfl | rfl⟩ | ⟨h1, -⟩
                · omega
                · rw [e0, e10]
                  refine (congrFun (x_up_k (by decide)) _).trans ?_
                  show F6 26 (S.1 1 0 0) = nI x.1
                  rw [l1.1 26 (by decide), hF5]
                  exact x_up_s _ _ _ _
                · rw [e0, e11]
                  exact x_up_s _ _ _ _
                · omega)
              rw [e0] at w2
              rw [hF7]
              exact w2
            have g6 : G6 24 = va_up (G1 24) (4 + S.1 1 0 0) (y_lt a m (y_nxt a m q)) := by rw [l1.2 24 (by decide)]; exact g4
            have st : x_LS 22 a m (v_set (v_set (v_set S.1 10 (S.1 1 0 0) 0 x.1) 11 (S.1 1 0 0) 0 u.1) 1 0 0 (S.1 1 0 0 + 1), y.1, S.2.2) u.2 F7 G6 := by
              refine ⟨hR7, c7, ?_, fun i hi => ?_⟩
              · rw [g6, k1.2]
                refine y_NR_up s1.2.2.1 (fun i hi => Or.inl ?_) (fun i hi => ?_) (fun i hi => Or.inl ?_)
                · have hi : i < v_set (v_set (v_set S.1 10 (S.1 1 0 0) 0 x.1) 11 (S.1 1 0 0) 0 u.1) 1 0 0 (S.1 1 0 0 + 1) 0 0 0 := hi
                  rw [v_set_c (by decide), v_set_c (by decide), v_set_c (by decide)] at hi
                  exact hi
                · have hi : i < v_set (v_set (v_set S.1 10 (S.1 1 0 0) 0 x.1) 11 (S.1 1 0 0) 0 u.1) 1 0 0 (S.1 1 0 0 + 1) 1 0 0 := hi
                  rw [v_set_s] at hi
                  omega
                · have hi : i < v_set (v_set (v_set S.1 10 (S.1 1 0 0) 0 x.1) 11 (S.1 1 0 0) 0 u.1) 1 0 0 (S.1 1 0 0 + 1) 2 0 0 := hi
                  rw [v_set_c (by decide), v_set_c (by decide), v_set_c (by decide)] at hi
                  exact hi
              · have e : F7 601 = f 601 := by
                  rw [hF7]
                  exact (x_up_k (by decide)).trans ((x_up_k (by decide)).trans ((l1.1 601 (by decide)).trans (by rw [hF5]; exact (x_up_k (by decide)).trans t4)))
                rw [e]
                exact hS.2.2.2 i hi
            have hF7' : F7 = x_up (x_up F6 27 (nI (S.1 1 0 0)).toNatClampNeg (F6 10 9)) 22 1 (F6 22 1 + Int32.ofInt 1) := by rw [hF7, nI_clamp (by omega), l3, hG6, nI_1o]
            show ∃ P, x_Ct 86 (d + 3) [.ref 10, .int 59] (x_up (x_up F6 27 (nI (S.1 1 0 0)).toNatClampNeg (F6 10 9)) 22 1 (F6 22 1 + Int32.ofInt 1), G6, x_HR 12 t, dm, n) P ∧ _
            rw [← hF7']
            refine Exists.intro _ (And.intro (c_takeSign (c := 59) hT hR7 (by decide) (by decide)) (And.intro (And.intro (Nat.zero_le _) (Nat.zero_le _)) (fun zq h' hpo => ?_)))
            cases e4 : y_sgn a m 59 u.2 with
            | inl e =>
              obtain ⟨rfl, F8, G8, rfl, i1, i2⟩ := x_PT_l e4 hpo
              refine And.intro ?_ ⟨Or.inl rfl, Nat.le_refl _, Nat.le_refl _⟩
              rw [hPo]
              refine x_PLd_l ((eY _ e1).trans ?_) (x_fL_t n4 (x_fL_t (x_fL_t f5 (x_fL_10 l1)) (x_fL_t f7 (x_fL_10 i1)))) i2 (v_CA_10 hL i1 c7) hB7
              show y_bd (y_wrd a m (nI 8) y.2) _ = _
              rw [e2]
              show y_bd (y_nbr a m 1 99 q3) _ = _
              rw [e3]
              show y_bd (y_chc a m (nI 9) 999 10 x.2) _ = _
              rw [e5]
              show y_bd (y_sgn a m 59 u.2) _ = _
              rw [e4]
              rfl
            | inr q5 =>
              obtain ⟨rfl, F8, G8, rfl, i1, i2⟩ := x_PT_r e4 hpo
              refine And.intro ?_ ⟨Or.inr rfl, Nat.le_refl _, Nat.le_refl _⟩
              rw [hPo]
              refine x_PLd_r (w := ((v_set (v_set (v_set S.1 10 (S.1 1 0 0) 0 x.1) 11 (S.1 1 0 0) 0 u.1) 1 0 0 (S.1 1 0 0 + 1), y.1, S.2.2), q5)) ((eY _ e1).trans ?_) (x_fL_t n4 (x_fL_t (x_fL_t f5 (x_fL_10 l1)) (x_fL_t f7 (x_fL_10 i1)))) (x_LS_10 hL st i1 i2.1)
              show y_bd (y_wrd a m (nI 8) y.2) _ = _
              rw [e2]
              show y_bd (y_nbr a m 1 99 q3) _ = _
              rw [e3]
              show y_bd (y_chc a m (nI 9) 999 10 x.2) _ = _
              rw [e5]
              show y_bd (y_sgn a m 59 u.2) _ = _
              rw [e4]
              rfl
theorem c_readPerson_22 (hT : y_TP a m) (hB : v_BA S.1) (hS : x_LS 22 a m S q f g) (hw : y_sa a m q = 1) : x_Ct 40 (d + 4) [.ref 600] (f, g, x_HR 12 t, dm, n) (x_PLd 22 a m f g (x_HR 12 t) dm n (y_pers a m S q)) := by
  obtain ⟨Po, hPo⟩ : ∃ Po : Option Value → xH → Prop, Po = x_PLd 22 a m f g (x_HR 12 t) dm n (y_pers a m S q) := ⟨_, rfl⟩
  rw [← hPo]
  have hL : (22 : Nat) = 12 ∨ (22 : Nat) = 22 := by decide
  have h0 : f 22 0 = nI (S.1 0 0 0) := hS.2.1.1 0 0 0 ⟨rfl, rfl⟩
  have h1 : f 22 1 = nI (S.1 1 0 0) := hS.2.1.1 1 0 0 ⟨rfl, rfl⟩
  have h2 : f 22 2 = nI (S.1 2 0 0) := hS.2.1.1 2 0 0 ⟨rfl, rfl⟩
  have b0 := v_BA_K hB
  have b1 := v_BA_G hB
  have b2 := v_BA_P hB
  have hn := y_nxt_gt (a := a) (m := m) (q := q) (by rw [hw]; decide)
  refine x_Ct_w (by decide) (Nat.le_of_ble_eq_true rfl) ok40 [8] 6 ?_
  show x_J 40 (d + 4) Po 8 [some (.ref 600), some (.int (f 22 2))] [] (f, g, x_HR 12 t, dm, n) 0 0
  rw [h2]
  have no : ∀ F G, Po (some (.int 0)) (F, G, x_HR 12 t, dm, n) → x_J 40 (d + 4) Po 61 [some (.ref 600), some (.int (nI (S.1 2 0 0)))] [] (F, G, x_HR 12 t, dm, n) 0 0 := by
    intro F G h
    refine x_wp_ok ok40 [] 6 ?_
    refine And.intro ?_ ⟨Or.inl rfl, Nat.le_refl _, Nat.le_refl _⟩
    exact h
  refine x_wp_ok ok40 [61] 6 ?_
  by_cases c : S.1 2 0 0 = 5
  · refine And.intro (fun k => absurd (show nI (S.1 2 0 0) < nI 5 from k) (nI_nlt (by omega) (by omega))) (fun _ => ?_)
    refine Exists.intro _ (And.intro (c_fail (k := 6) hS.1) (And.intro (And.intro (Nat.zero_le _) (Nat.zero_le _)) (fun zq h' hpo => ?_)))
    obtain ⟨rfl, F1, rfl, u1, u2⟩ := hpo
    refine And.intro ?_ ⟨Or.inl rfl, Nat.le_refl _, Nat.le_refl _⟩
    rw [hPo]
    exact x_PLd_l (if_pos c) (x_fL_10 u1) u2 (v_CA_10 hL u1 hS.2.1) hB
  · refine And.intro (fun _ => ?_) (fun k => absurd (show nI (S.1 2 0 0) < nI 5 from nI_lt (by omega) (by decide)) k)
    have eY : ∀ Y, y_new a m S.2.1 (S.1 0 0 0) (S.1 1 0 0) (S.1 2 0 0) (9 + S.1 2 0 0) (y_nxt a m q) = Y → y_pers a m S q = y_bd Y (fun z => y_bd (y_chc a m 10 9999 0 z.2) (fun y => y_bd (y_sgn a m 59 y.2) (fun q3 => .inr ((v_set (v_set S.1 12 (S.1 2 0 0) 0 y.1) 2 0 0 (S.1 2 0 0 + 1), z.1, S.2.2), q3)))) := by
      intro Y hY
      unfold y_pers
      rw [if_neg c, hY]
    refine Exists.intro _ (And.intro (c_adv hT hS.1 (by rw [hw]; decide) (by rw [hw]; decide)) (And.intro (And.intro (Nat.zero_le _) (Nat.zero_le _)) (fun zq h' hpo => ?_)))
    obtain ⟨rfl, F1, G1, rfl, u1, -, u3⟩ := hpo
    have s1 := x_LS_10 hL hS u1 u3
    show ∃ P, x_Ct 91 (d + 3) [.ref 10, .ref 22, .int (nI 9 + nI (S.1 2 0 0))] (F1, G1, x_HR 12 t, dm, n) P ∧ _
    rw [nI_add]
    refine Exists.intro _ (And.intro (c_takeNewName_22 (v := S.1) (N := S.2.1) hT hn.2 u3 (by omega) (by rw [u1.1 22 (by decide)]; exact h0) (by rw [u1.1 22 (by decide)]; exact h1) (by rw [u1.1 22 (by decide)]; exact h2) b0 b1 b2 s1.2.2.1) (And.intro (And.intro (Nat.zero_le _) (Nat.zero_le _)) (fun zq h' hpo => ?_)))
    cases e1 : y_new a m S.2.1 (S.1 0 0 0) (S.1 1 0 0) (S.1 2 0 0) (9 + S.1 2 0 0) (y_nxt a m q) with
    | inl e =>
      obtain ⟨rfl, F2, G2, rfl, w1, w2⟩ := x_PNn_l e1 hpo
      refine And.intro (fun _ => ?_) (fun c => absurd rfl c)
      refine no F2 G2 ?_
      rw [hPo]
      exact x_PLd_l (eY _ e1) (x_fL_t (x_fL_10 u1) (x_fL_10 w1)) w2 (v_CA_10 hL w1 s1.2.1) hB
    | inr y =>
      obtain ⟨rfl, F2, G2, rfl, w1, w2⟩ := x_PNn_r e1 hpo
      have k1 := y_new_gt e1
      have n2 : x_fL 22 f g F2 G2 := x_fL_t (x_fL_10 u1) (x_fL_t (x_fL_gp (by decide)) (x_fL_10 w1))
      have c2 : v_CA F2 G2 22 S.1 := v_CA_10 hL w1 (v_CA_n s1.2.1)
      have g2 : G2 24 = va_up (G1 24) (9 + S.1 2 0 0) (y_lt a m (y_nxt a m q)) := by rw [w1.2 24 (by decide)]; exact x_up_c
      have t2 : F2 601 = f 601 := (w1.1 601 (by decide)).trans (u1.1 601 (by decide))
      refine And.intro (fun c => absurd (show (1 : Int32) = 0 from c) (by decide)) (fun _ => ?_)
      refine Exists.intro _ (And.intro (c_readChoice_22 (w := 10) (c := 9) (hi := 9999) (df := 0) rfl (by decide) (by decide) hT w2) (And.intro (And.intro (Nat.zero_le _) (Nat.zero_le _)) (fun zq h' hpo => ?_)))
      cases e5 : y_chc a m (nI 10) 9999 0 y.2 with
      | inl e =>
        obtain ⟨rfl, F6, G6, rfl, l1, l2⟩ := x_PT_l e5 hpo
        refine And.intro (fun c => absurd rfl c) (fun _ => ?_)
        refine no F6 G6 ?_
        rw [hPo]
        refine x_PLd_l ((eY _ e1).trans ?_) (x_fL_t n2 (x_fL_10 l1)) l2 (v_CA_10 hL l1 c2) hB
        show y_bd (y_chc a m (nI 10) 9999 0 y.2) _ = _
        rw [e5]
        rfl
      | inr u =>
        obtain ⟨rfl, F6, G6, rfl, l1, l2, l3⟩ := x_PT_r e5 hpo
        have k5 := y_chc_gt (by decide) (by decide) k1.1.2 e5
        have c6 := v_CA_10 hL l1 c2
        have hG6 : F6 22 2 = nI (S.1 2 0 0) := c6.1 2 0 0 ⟨rfl, rfl⟩
        refine And.intro (fun _ => ?_) (fun c => absurd (show (1 : Int32) = 0 from c) (by decide))
        refine And.intro (x_ix_nI (by omega) (by omega)) ?_
        obtain ⟨F7, hF7⟩ : ∃ F7, F7 = x_up (x_up F6 28 (S.1 2 0 0) (nI u.1)) 22 2 (nI (S.1 2 0 0 + 1)) := ⟨_, rfl⟩
        have hR7 : x_RC a m u.2 F7 G6 := by
          rw [hF7]
          exact l2
        have f7 : x_fL 22 F6 G6 F7 G6 := by
          rw [hF7]
          exact x_fL_t (x_fL_up (Or.inr (by decide))) (x_fL_up (Or.inr (by decide)))
        have b6 : v_BA (v_set S.1 12 (S.1 2 0 0) 0 u.1) := v_BA_set hB (by decide) (by decide) (by decide) (by decide) (by decide) (by decide) (Nat.zero_le _) (Nat.le_trans k5.2 (by decide))
        have e0 : v_set S.1 12 (S.1 2 0 0) 0 u.1 2 0 0 = S.1 2 0 0 := v_set_c (by decide)
        have e12 : v_set S.1 12 (S.1 2 0 0) 0 u.1 12 (S.1 2 0 0) 0 = u.1 := v_set_s _ _ _ _ _
        have hB7 : v_BA (v_set (v_set S.1 12 (S.1 2 0 0) 0 u.1) 2 0 0 (S.1 2 0 0 + 1)) := by
          have w := v_BA_more b6 (s := 2) (by decide) (by rw [e0]; show S.1 2 0 0 < 5; omega) (fun c hc => by
            rcases hc with ⟨h1, -⟩ | ⟨h1, -⟩ | ⟨-, rfl⟩
            · omega
            · omega
            · rw [e0, e12]
              exact ⟨Nat.zero_le _, Nat.le_trans k5.2 (by decide)⟩)
          rw [e0] at w
          exact w
        have c7 : v_CA F7 G6 22 (v_set (v_set S.1 12 (S.1 2 0 0) 0 u.1) 2 0 0 (S.1 2 0 0 + 1)) := by
          have w := v_CA_set c6 (vp := v_set S.1 2 0 0 (S.1 2 0 0 + 1)) (fun c i j h => v_al_up (s := 2) (by decide) h) (by rw [v_set_c (by decide)]; omega) (by rw [v_set_c (by decide)]; omega) (c := 12) (i := S.1 2 0 0) (j := 0) (x := u.1) (by
            show S.1 2 0 0 < v_set S.1 2 0 0 (S.1 2 0 0 + 1) 2 0 0 ∧ 0 = 0
            rw [v_set_s]
            omega) (by decide)
          have w2 := v_CA_more w (s := 2) (by decide) (by rw [v_set_c (by decide)]; exact b0) (by rw [v_set_c (by decide)]; exact b1) (fun c hc => by
            rcases hc with ⟨h1, -⟩ | ⟨h1, -⟩ | ⟨-, rfl⟩
            · omega
            · omega
            · rw [e0, e12]
              exact x_up_s _ _ _ _)
          rw [e0] at w2
          rw [hF7]
          exact w2
        have g6 : G6 24 = va_up (G1 24) (9 + S.1 2 0 0) (y_lt a m (y_nxt a m q)) := by rw [l1.2 24 (by decide)]; exact g2
        have st : x_LS 22 a m (v_set (v_set S.1 12 (S.1 2 0 0) 0 u.1) 2 0 0 (S.1 2 0 0 + 1), y.1, S.2.2) u.2 F7 G6 := by
          refine ⟨hR7, c7, ?_, fun i hi => ?_⟩
          · rw [g6, k1.2]
            refine y_NR_up s1.2.2.1 (fun i hi => Or.inl ?_) (fun i hi => Or.inl ?_) (fun i hi => ?_)
            · have hi : i < v_set (v_set S.1 12 (S.1 2 0 0) 0 u.1) 2 0 0 (S.1 2 0 0 + 1) 0 0 0 := hi
              rw [v_set_c (by decide), v_set_c (by decide)] at hi
              exact hi
            · have hi : i < v_set (v_set S.1 12 (S.1 2 0 0) 0 u.1) 2 0 0 (S.1 2 0 0 + 1) 1 0 0 := hi
              rw [v_set_c (by decide), v_set_c (by decide)] at hi
              exact hi
            · have hi : i < v_set (v_set S.1 12 (S.1 2 0 0) 0 u.1) 2 0 0 (S.1 2 0 0 + 1) 2 0 0 := hi
              rw [v_set_s] at hi
              omega
          · have e : F7 601 = f 601 := by
              rw [hF7]
              exact (x_up_k (by decide)).trans ((x_up_k (by decide)).trans ((l1.1 601 (by decide)).trans t2))
            rw [e]
            exact hS.2.2.2 i hi
        have hF7' : F7 = x_up (x_up F6 28 (nI (S.1 2 0 0)).toNatClampNeg (F6 10 9)) 22 2 (F6 22 2 + Int32.ofInt 1) := by rw [hF7, nI_clamp (by omega), l3, hG6, nI_1o]
        show ∃ P, x_Ct 86 (d + 3) [.ref 10, .int 59] (x_up (x_up F6 28 (nI (S.1 2 0 0)).toNatClampNeg (F6 10 9)) 22 2 (F6 22 2 + Int32.ofInt 1), G6, x_HR 12 t, dm, n) P ∧ _
        rw [← hF7']
        refine Exists.intro _ (And.intro (c_takeSign (c := 59) hT hR7 (by decide) (by decide)) (And.intro (And.intro (Nat.zero_le _) (Nat.zero_le _)) (fun zq h' hpo => ?_)))
        cases e4 : y_sgn a m 59 u.2 with
        | inl e =>
          obtain ⟨rfl, F8, G8, rfl, i1, i2⟩ := x_PT_l e4 hpo
          refine And.intro ?_ ⟨Or.inl rfl, Nat.le_refl _, Nat.le_refl _⟩
          rw [hPo]
          refine x_PLd_l ((eY _ e1).trans ?_) (x_fL_t n2 (x_fL_t (x_fL_10 l1) (x_fL_t f7 (x_fL_10 i1)))) i2 (v_CA_10 hL i1 c7) hB7
          show y_bd (y_chc a m (nI 10) 9999 0 y.2) _ = _
          rw [e5]
          show y_bd (y_sgn a m 59 u.2) _ = _
          rw [e4]
          rfl
        | inr q5 =>
          obtain ⟨rfl, F8, G8, rfl, i1, i2⟩ := x_PT_r e4 hpo
          refine And.intro ?_ ⟨Or.inr rfl, Nat.le_refl _, Nat.le_refl _⟩
          rw [hPo]
          refine x_PLd_r (w := ((v_set (v_set S.1 12 (S.1 2 0 0) 0 u.1) 2 0 0 (S.1 2 0 0 + 1), y.1, S.2.2), q5)) ((eY _ e1).trans ?_) (x_fL_t n2 (x_fL_t (x_fL_10 l1) (x_fL_t f7 (x_fL_10 i1)))) (x_LS_10 hL st i1 i2.1)
          show y_bd (y_chc a m (nI 10) 9999 0 y.2) _ = _
          rw [e5]
          show y_bd (y_sgn a m 59 u.2) _ = _
          rw [e4]
          rfl
theorem c_readHas_22 (hT : y_TP a m) (hB : v_BA S.1) (hS : x_LS 22 a m S q f g) (hw : y_sa a m q = 1) : x_Ct 42 (d + 3) [.ref 600] (f, g, x_HR 12 t, dm, n) (x_PLd 22 a m f g (x_HR 12 t) dm n (y_has a m S q)) := by
  obtain ⟨Po, hPo⟩ : ∃ Po : Option Value → xH → Prop, Po = x_PLd 22 a m f g (x_HR 12 t) dm n (y_has a m S q) := ⟨_, rfl⟩
  rw [← hPo]
  have hL : (22 : Nat) = 12 ∨ (22 : Nat) = 22 := by decide
  have h0 : f 22 0 = nI (S.1 0 0 0) := hS.2.1.1 0 0 0 ⟨rfl, rfl⟩
  have h2 : f 22 2 = nI (S.1 2 0 0) := hS.2.1.1 2 0 0 ⟨rfl, rfl⟩
  have b0 := v_BA_K hB
  have b1 := v_BA_G hB
  have b2 := v_BA_P hB
  have hn := y_nxt_gt (a := a) (m := m) (q := q) (by rw [hw]; decide)
  refine x_Ct_w (by decide) (Nat.le_of_ble_eq_true rfl) ok42 [33, 58] 6 ?_
  refine Exists.intro _ (And.intro (c_adv hT hS.1 (by rw [hw]; decide) (by rw [hw]; decide)) (And.intro (And.intro (Nat.zero_le _) (Nat.zero_le _)) (fun zq h' hpo => ?_)))
  obtain ⟨rfl, F1, G1, rfl, u1, -, u3⟩ := hpo
  have s1 := x_LS_10 hL hS u1 u3
  refine Exists.intro _ (And.intro (c_takeOldName_22_9 (N := S.2.1) (M := S.1 2 0 0) hT hn.2 u3 (by rw [u1.1 22 (by decide)]; exact h2) b2 (y_NR_9 s1.2.2.1 _)) (And.intro (And.intro (Nat.zero_le _) (Nat.zero_le _)) (fun zq h' hpo => ?_)))
  cases e1 : y_old a m S.2.1 9 (S.1 2 0 0) (y_nxt a m q) with
  | inl e =>
    obtain ⟨rfl, F2, G2, rfl, w1, w2⟩ := x_PT_l e1 hpo
    refine And.intro (fun c => absurd rfl c) (fun _ => ?_)
    refine And.intro ?_ ⟨Or.inl rfl, Nat.le_refl _, Nat.le_refl _⟩
    rw [hPo]
    refine x_PLd_l ?_ (x_fL_t (x_fL_10 u1) (x_fL_10 w1)) w2 (v_CA_10 hL w1 s1.2.1) hB
    unfold y_has
    rw [e1]
    rfl
  | inr y =>
    obtain ⟨rfl, F2, G2, rfl, w1, w2, w3⟩ := x_PT_r e1 hpo
    have k1 := y_old_gt e1
    have s2 := x_LS_10 hL s1 w1 w2
    refine And.intro (fun _ => ?_) (fun c => absurd (show (1 : Int32) = 0 from c) (by decide))
    show x_J 42 (d + 3) Po 33 [some (.ref 600), some (.int (F2 10 9)), none] [] (F2, G2, x_HR 12 t, dm, n) 0 0
    rw [w3]
    refine x_wp_ok ok42 [58] 6 ?_
    refine Exists.intro _ (And.intro (c_takeOldName_22_0 (N := S.2.1) (M := S.1 0 0 0) hT k1.1.2 w2 (by rw [w1.1 22 (by decide), u1.1 22 (by decide)]; exact h0) b0 (y_NR_0 s2.2.2.1 _)) (And.intro (And.intro (Nat.zero_le _) (Nat.zero_le _)) (fun zq h' hpo => ?_)))
    cases e2 : y_old a m S.2.1 0 (S.1 0 0 0) y.2 with
    | inl e =>
      obtain ⟨rfl, F3, G3, rfl, p1, p2⟩ := x_PT_l e2 hpo
      refine And.intro (fun c => absurd rfl c) (fun _ => ?_)
      refine And.intro ?_ ⟨Or.inl rfl, Nat.le_refl _, Nat.le_refl _⟩
      rw [hPo]
      refine x_PLd_l ?_ (x_fL_t (x_fL_10 u1) (x_fL_t (x_fL_10 w1) (x_fL_10 p1))) p2 (v_CA_10 hL p1 s2.2.1) hB
      unfold y_has
      rw [e1]
      show y_bd (y_old a m S.2.1 0 (S.1 0 0 0) y.2) _ = _
      rw [e2]
      rfl
    | inr u =>
      obtain ⟨rfl, F3, G3, rfl, p1, p2, p3⟩ := x_PT_r e2 hpo
      have k2 := y_old_gt e2
      have s3 := x_LS_10 hL s2 p1 p2
      refine And.intro (fun _ => ?_) (fun c => absurd (show (1 : Int32) = 0 from c) (by decide))
      show x_J 42 (d + 3) Po 58 [some (.ref 600), some (.int (nI y.1)), some (.int (F3 10 9))] [] (F3, G3, x_HR 12 t, dm, n) 0 0
      rw [p3]
      refine x_wp_ok ok42 [] 6 ?_
      refine Exists.intro _ (And.intro (c_takeNumber (lo := 0) (hi := 999) (by decide) (by decide) hT p2) (And.intro (And.intro (Nat.zero_le _) (Nat.zero_le _)) (fun zq h' hpo => ?_)))
      cases e3 : y_nbr a m 0 999 u.2 with
      | inl e =>
        obtain ⟨rfl, F4, G4, rfl, o1, o2⟩ := x_PT_l e3 hpo
        refine And.intro (fun c => absurd rfl c) (fun _ => ?_)
        refine And.intro ?_ ⟨Or.inl rfl, Nat.le_refl _, Nat.le_refl _⟩
        rw [hPo]
        refine x_PLd_l ?_ (x_fL_t (x_fL_10 u1) (x_fL_t (x_fL_10 w1) (x_fL_t (x_fL_10 p1) (x_fL_10 o1)))) o2 (v_CA_10 hL o1 s3.2.1) hB
        unfold y_has
        rw [e1]
        show y_bd (y_old a m S.2.1 0 (S.1 0 0 0) y.2) _ = _
        rw [e2]
        show y_bd (y_nbr a m 0 999 u.2) _ = _
        rw [e3]
        rfl
      | inr x =>
        obtain ⟨rfl, F4, G4, rfl, o1, o2, o3⟩ := x_PT_r e3 hpo
        have k3 := y_nbr_gt e3
        have s4 := x_LS_10 hL s3 o1 o2
        refine And.intro (fun _ => ?_) (fun c => absurd (show (1 : Int32) = 0 from c) (by decide))
        refine Exists.intro _ (And.intro c_purse (And.intro (And.intro (Nat.zero_le _) (Nat.zero_le _)) (fun q h' hpo => ?_)))
        obtain ⟨rfl, rfl⟩ := hpo
        have ep : nI y.1 * 4 + nI u.1 = nI (4 * y.1 + u.1) := x_pl4 y.1 u.1
        refine And.intro (by show x_ix (nI y.1 * 4 + nI u.1) 20; rw [ep]; exact x_ix_nI (by omega) (by omega)) ?_
        obtain ⟨F5, hF5⟩ : ∃ F5, F5 = x_up F4 29 (4 * y.1 + u.1) (nI x.1) := ⟨_, rfl⟩
        have hR5 : x_RC a m x.2 F5 G4 := by
          rw [hF5]
          exact o2
        have f5 : x_fL 22 F4 G4 F5 G4 := by
          rw [hF5]
          exact x_fL_up (Or.inr (by decide))
        have b5 : v_BA (v_set S.1 13 y.1 u.1 x.1) := v_BA_set hB (by decide) (by decide) (by decide) (by decide) (by decide) (by decide) (Nat.zero_le _) (Nat.le_trans k3.2.2 (by decide))
        have c5 : v_CA F5 G4 22 (v_set S.1 13 y.1 u.1 x.1) := by
          rw [hF5]
          exact v_CA_set s4.2.1 (fun _ _ _ h => h) (Nat.le_trans b0 (by decide)) (Nat.le_trans b1 (by decide)) (c := 13) (i := y.1) (j := u.1) (show y.1 < 5 ∧ u.1 < 4 by omega) (by decide)
        have st : x_LS 22 a m (v_set S.1 13 y.1 u.1 x.1, S.2.1, S.2.2) x.2 F5 G4 := by
          refine ⟨hR5, c5, y_NR_v s4.2.2.1 (show v_set S.1 13 y.1 u.1 x.1 0 0 0 = S.1 0 0 0 from v_set_c (by decide)) (show v_set S.1 13 y.1 u.1 x.1 1 0 0 = S.1 1 0 0 from v_set_c (by decide)) (show v_set S.1 13 y.1 u.1 x.1 2 0 0 = S.1 2 0 0 from v_set_c (by decide)), fun i hi => ?_⟩
          have e : F5 601 = F4 601 := by
            rw [hF5]
            exact x_up_k (by decide)
          rw [e]
          exact s4.2.2.2 i hi
        have hF5' : F5 = x_up F4 29 (nI y.1 * 4 + nI u.1).toNatClampNeg (F4 10 9) := by rw [hF5, ep, nI_clamp (by omega), o3]
        show ∃ P, x_Ct 86 (d + 2) [.ref 10, .int 59] (x_up F4 29 (nI y.1 * 4 + nI u.1).toNatClampNeg (F4 10 9), G4, x_HR 12 t, dm, n) P ∧ _
        rw [← hF5']
        refine Exists.intro _ (And.intro (c_takeSign (c := 59) hT hR5 (by decide) (by decide)) (And.intro (And.intro (Nat.zero_le _) (Nat.zero_le _)) (fun zq h' hpo => ?_)))
        cases e4 : y_sgn a m 59 x.2 with
        | inl e =>
          obtain ⟨rfl, F6, G6, rfl, i1, i2⟩ := x_PT_l e4 hpo
          refine And.intro ?_ ⟨Or.inl rfl, Nat.le_refl _, Nat.le_refl _⟩
          rw [hPo]
          refine x_PLd_l ?_ (x_fL_t (x_fL_10 u1) (x_fL_t (x_fL_10 w1) (x_fL_t (x_fL_10 p1) (x_fL_t (x_fL_10 o1) (x_fL_t f5 (x_fL_10 i1)))))) i2 (v_CA_10 hL i1 c5) b5
          unfold y_has
          rw [e1]
          show y_bd (y_old a m S.2.1 0 (S.1 0 0 0) y.2) _ = _
          rw [e2]
          show y_bd (y_nbr a m 0 999 u.2) _ = _
          rw [e3]
          show y_bd (y_sgn a m 59 x.2) _ = _
          rw [e4]
          rfl
        | inr q5 =>
          obtain ⟨rfl, F6, G6, rfl, i1, i2⟩ := x_PT_r e4 hpo
          refine And.intro ?_ ⟨Or.inr rfl, Nat.le_refl _, Nat.le_refl _⟩
          rw [hPo]
          refine x_PLd_r (w := ((v_set S.1 13 y.1 u.1 x.1, S.2.1, S.2.2), q5)) ?_ (x_fL_t (x_fL_10 u1) (x_fL_t (x_fL_10 w1) (x_fL_t (x_fL_10 p1) (x_fL_t (x_fL_10 o1) (x_fL_t f5 (x_fL_10 i1)))))) (x_LS_10 hL st i1 i2.1)
          unfold y_has
          rw [e1]
          show y_bd (y_old a m S.2.1 0 (S.1 0 0 0) y.2) _ = _
          rw [e2]
          show y_bd (y_nbr a m 0 999 u.2) _ = _
          rw [e3]
          show y_bd (y_sgn a m 59 x.2) _ = _
          rw [e4]
          rfl
theorem c_readGood_12 (hT : y_TP a m) (hB : v_BA S.1) (hS : x_LS 12 a m S q f g) (hw : y_sa a m q = 1) : x_Ct 39 (d + 4) [.ref 600] (f, g, x_HR 22 t, dm, n) (x_PLd 12 a m f g (x_HR 22 t) dm n (y_good a m S q)) := by
  obtain ⟨Po, hPo⟩ : ∃ Po : Option Value → xH → Prop, Po = x_PLd 12 a m f g (x_HR 22 t) dm n (y_good a m S q) := ⟨_, rfl⟩
  rw [← hPo]
  have hL : (12 : Nat) = 12 ∨ (12 : Nat) = 22 := by decide
  have h0 : f 12 0 = nI (S.1 0 0 0) := hS.2.1.1 0 0 0 ⟨rfl, rfl⟩
  have h1 : f 12 1 = nI (S.1 1 0 0) := hS.2.1.1 1 0 0 ⟨rfl, rfl⟩
  have h2 : f 12 2 = nI (S.1 2 0 0) := hS.2.1.1 2 0 0 ⟨rfl, rfl⟩
  have b0 := v_BA_K hB
  have b1 := v_BA_G hB
  have b2 := v_BA_P hB
  have hn := y_nxt_gt (a := a) (m := m) (q := q) (by rw [hw]; decide)
  refine x_Ct_w (by decide) (Nat.le_of_ble_eq_true rfl) ok39 [8] 6 ?_
  show x_J 39 (d + 4) Po 8 [some (.ref 600), some (.int (f 12 1))] [] (f, g, x_HR 22 t, dm, n) 0 0
  rw [h1]
  have no : ∀ F G, Po (some (.int 0)) (F, G, x_HR 22 t, dm, n) → x_J 39 (d + 4) Po 72 [some (.ref 600), some (.int (nI (S.1 1 0 0)))] [] (F, G, x_HR 22 t, dm, n) 0 0 := by
    intro F G h
    refine x_wp_ok ok39 [] 6 ?_
    refine And.intro ?_ ⟨Or.inl rfl, Nat.le_refl _, Nat.le_refl _⟩
    exact h
  refine x_wp_ok ok39 [72] 6 ?_
  by_cases c : S.1 1 0 0 = 5
  · refine And.intro (fun k => absurd (show nI (S.1 1 0 0) < nI 5 from k) (nI_nlt (by omega) (by omega))) (fun _ => ?_)
    refine Exists.intro _ (And.intro (c_fail (k := 6) hS.1) (And.intro (And.intro (Nat.zero_le _) (Nat.zero_le _)) (fun zq h' hpo => ?_)))
    obtain ⟨rfl, F1, rfl, u1, u2⟩ := hpo
    refine And.intro ?_ ⟨Or.inl rfl, Nat.le_refl _, Nat.le_refl _⟩
    rw [hPo]
    exact x_PLd_l (if_pos c) (x_fL_10 u1) u2 (v_CA_10 hL u1 hS.2.1) hB
  · refine And.intro (fun _ => ?_) (fun k => absurd (show nI (S.1 1 0 0) < nI 5 from nI_lt (by omega) (by decide)) k)
    have eY : ∀ Y, y_new a m S.2.1 (S.1 0 0 0) (S.1 1 0 0) (S.1 2 0 0) (4 + S.1 1 0 0) (y_nxt a m q) = Y → y_good a m S q = y_bd Y (fun z => y_bd (y_wrd a m 8 z.2) (fun q2 => y_bd (y_nbr a m 1 99 q2) (fun x => y_bd (y_chc a m 9 999 10 x.2) (fun y => y_bd (y_sgn a m 59 y.2) (fun q3 => .inr ((v_set (v_set (v_set S.1 10 (S.1 1 0 0) 0 x.1) 11 (S.1 1 0 0) 0 y.1) 1 0 0 (S.1 1 0 0 + 1), z.1, S.2.2), q3)))))) := by
      intro Y hY
      unfold y_good
      rw [if_neg c, hY]
    refine Exists.intro _ (And.intro (c_adv hT hS.1 (by rw [hw]; decide) (by rw [hw]; decide)) (And.intro (And.intro (Nat.zero_le _) (Nat.zero_le _)) (fun zq h' hpo => ?_)))
    obtain ⟨rfl, F1, G1, rfl, u1, -, u3⟩ := hpo
    have s1 := x_LS_10 hL hS u1 u3
    show ∃ P, x_Ct 91 (d + 3) [.ref 10, .ref 12, .int (nI 4 + nI (S.1 1 0 0))] (F1, G1, x_HR 22 t, dm, n) P ∧ _
    rw [nI_add]
    refine Exists.intro _ (And.intro (c_takeNewName_12 (v := S.1) (N := S.2.1) hT hn.2 u3 (by omega) (by rw [u1.1 12 (by decide)]; exact h0) (by rw [u1.1 12 (by decide)]; exact h1) (by rw [u1.1 12 (by decide)]; exact h2) b0 b1 b2 s1.2.2.1) (And.intro (And.intro (Nat.zero_le _) (Nat.zero_le _)) (fun zq h' hpo => ?_)))
    cases e1 : y_new a m S.2.1 (S.1 0 0 0) (S.1 1 0 0) (S.1 2 0 0) (4 + S.1 1 0 0) (y_nxt a m q) with
    | inl e =>
      obtain ⟨rfl, F2, G2, rfl, w1, w2⟩ := x_PNn_l e1 hpo
      refine And.intro (fun _ => ?_) (fun c => absurd rfl c)
      refine no F2 G2 ?_
      rw [hPo]
      exact x_PLd_l (eY _ e1) (x_fL_t (x_fL_10 u1) (x_fL_10 w1)) w2 (v_CA_10 hL w1 s1.2.1) hB
    | inr y =>
      obtain ⟨rfl, F2, G2, rfl, w1, w2⟩ := x_PNn_r e1 hpo
      have k1 := y_new_gt e1
      have n2 : x_fL 12 f g F2 G2 := x_fL_t (x_fL_10 u1) (x_fL_t (x_fL_gp (by decide)) (x_fL_10 w1))
      have c2 : v_CA F2 G2 12 S.1 := v_CA_10 hL w1 (v_CA_n s1.2.1)
      have g2 : G2 14 = va_up (G1 14) (4 + S.1 1 0 0) (y_lt a m (y_nxt a m q)) := by rw [w1.2 14 (by decide)]; exact x_up_c
      have t2 : F2 601 = f 601 := (w1.1 601 (by decide)).trans (u1.1 601 (by decide))
      refine And.intro (fun c => absurd (show (1 : Int32) = 0 from c) (by decide)) (fun _ => ?_)
      refine Exists.intro _ (And.intro (c_takeWord (w := 8) (c := 6) rfl (by decide) hT w2) (And.intro (And.intro (Nat.zero_le _) (Nat.zero_le _)) (fun zq h' hpo => ?_)))
      cases e2 : y_wrd a m (nI 8) y.2 with
      | inl e =>
        obtain ⟨rfl, F3, G3, rfl, p1, p2⟩ := x_PT_l e2 hpo
        refine And.intro (fun _ => ?_) (fun c => absurd rfl c)
        refine no F3 G3 ?_
        rw [hPo]
        refine x_PLd_l ((eY _ e1).trans ?_) (x_fL_t n2 (x_fL_10 p1)) p2 (v_CA_10 hL p1 c2) hB
        show y_bd (y_wrd a m (nI 8) y.2) _ = _
        rw [e2]
        rfl
      | inr q3 =>
        obtain ⟨rfl, F3, G3, rfl, p1, p2⟩ := x_PT_r e2 hpo
        refine And.intro (fun c => absurd (show (1 : Int32) = 0 from c) (by decide)) (fun _ => ?_)
        refine Exists.intro _ (And.intro (c_takeNumber (lo := 1) (hi := 99) (by decide) (by decide) hT p2.1) (And.intro (And.intro (Nat.zero_le _) (Nat.zero_le _)) (fun zq h' hpo => ?_)))
        cases e3 : y_nbr a m 1 99 q3 with
        | inl e =>
          obtain ⟨rfl, F4, G4, rfl, o1, o2⟩ := x_PT_l e3 hpo
          refine And.intro (fun c => absurd rfl c) (fun _ => ?_)
          refine no F4 G4 ?_
          rw [hPo]
          refine x_PLd_l ((eY _ e1).trans ?_) (x_fL_t n2 (x_fL_t (x_fL_10 p1) (x_fL_10 o1))) o2 (v_CA_10 hL o1 (v_CA_10 hL p1 c2)) hB
          show y_bd (y_wrd a m (nI 8) y.2) _ = _
          rw [e2]
          show y_bd (y_nbr a m 1 99 q3) _ = _
          rw [e3]
          rfl
        | inr x =>
          obtain ⟨rfl, F4, G4, rfl, o1, o2, o3⟩ := x_PT_r e3 hpo
          have k3 := y_nbr_gt e3
          have c4 := v_CA_10 hL o1 (v_CA_10 hL p1 c2)
          have n4 := x_fL_t n2 (x_fL_t (x_fL_10 p1) (x_fL_10 o1))
          have t4 : F4 601 = f 601 := (o1.1 601 (by decide)).trans ((p1.1 601 (by decide)).trans t2)
          have g4 : G4 14 = va_up (G1 14) (4 + S.1 1 0 0) (y_lt a m (y_nxt a m q)) := by rw [o1.2 14 (by decide), p1.2 14 (by decide)]; exact g2
          refine And.intro (fun _ => ?_) (fun c => absurd (show (1 : Int32) = 0 from c) (by decide))
          refine And.intro (x_ix_nI (by omega) (by omega)) ?_
          obtain ⟨F5, hF5⟩ : ∃ F5, F5 = x_up F4 16 (S.1 1 0 0) (nI x.1) := ⟨_, rfl⟩
          have hR5 : x_RC a m x.2 F5 G4 := by
            rw [hF5]
            exact o2
          have f5 : x_fL 12 F4 G4 F5 G4 := by
            rw [hF5]
            exact x_fL_up (Or.inr (by decide))
          have b5 : v_BA (v_set S.1 10 (S.1 1 0 0) 0 x.1) := v_BA_set hB (by decide) (by decide) (by decide) (by decide) (by decide) (by decide) k3.2.1 k3.2.2
          have vup : ∀ c, c = 10 ∨ c = 11 → v_all (v_set S.1 1 0 0 (S.1 1 0 0 + 1)) c (S.1 1 0 0) 0 := by
            intro c hc
            rcases hc with rfl | rfl
            · show S.1 1 0 0 < v_set S.1 1 0 0 (S.1 1 0 0 + 1) 1 0 0 ∧ 0 = 0
              rw [v_set_s]
              omega
            · show S.1 1 0 0 < v_set S.1 1 0 0 (S.1 1 0 0 + 1) 1 0 0 ∧ 0 = 0
              rw [v_set_s]
              omega
          have c5 : v_CA F5 G4 12 (v_set S.1 10 (S.1 1 0 0) 0 x.1) := by
            rw [hF5]
            exact v_CA_set c4 (vp := v_set S.1 1 0 0 (S.1 1 0 0 + 1)) (fun c i j h => v_al_up (s := 1) (by decide) h) (by rw [v_set_c (by decide)]; omega) (by rw [v_set_s]; omega) (c := 10) (i := S.1 1 0 0) (j := 0) (x := x.1) (vup 10 (Or.inl rfl)) (by decide)
          have hF5' : F5 = x_up F4 16 (nI (S.1 1 0 0)).toNatClampNeg (F4 10 9) := by rw [hF5, nI_clamp (by omega), o3]
          show ∃ P, x_Ct 41 (d + 3) [.ref 600, .int 7, .int (nI 999), .int (nI 10)] (x_up F4 16 (nI (S.1 1 0 0)).toNatClampNeg (F4 10 9), G4, x_HR 22 t, dm, n) P ∧ _
          rw [← hF5']
          refine Exists.intro _ (And.intro (c_readChoice_12 (w := 9) (hi := 999) (df := 10) rfl (by decide) (by decide) hT hR5) (And.intro (And.intro (Nat.zero_le _) (Nat.zero_le _)) (fun zq h' hpo => ?_)))
          cases e5 : y_chc a m (nI 9) 999 10 x.2 with
          | inl e =>
            obtain ⟨rfl, F6, G6, rfl, l1, l2⟩ := x_PT_l e5 hpo
            refine And.intro (fun c => absurd rfl c) (fun _ => ?_)
            refine And.intro ?_ ⟨Or.inl rfl, Nat.le_refl _, Nat.le_refl _⟩
            rw [hPo]
            refine x_PLd_l ((eY _ e1).trans ?_) (x_fL_t n4 (x_fL_t f5 (x_fL_10 l1))) l2 (v_CA_10 hL l1 c5) b5
            show y_bd (y_wrd a m (nI 8) y.2) _ = _
            rw [e2]
            show y_bd (y_nbr a m 1 99 q3) _ = _
            rw [e3]
            show y_bd (y_chc a m (nI 9) 999 10 x.2) _ = _
            rw [e5]
            rfl
          | inr u =>
            obtain ⟨rfl, F6, G6, rfl, l1, l2, l3⟩ := x_PT_r e5 hpo
            have k5 := y_chc_gt (by decide) (by decide) k3.1.2 e5
            have c6 := v_CA_10 hL l1 c5
            have hG6 : F6 12 1 = nI (S.1 1 0 0) := (c6.1 1 0 0 ⟨rfl, rfl⟩).trans (congrArg nI (v_set_c (by decide)))
            refine And.intro (fun _ => ?_) (fun c => absurd (show (1 : Int32) = 0 from c) (by decide))
            refine And.intro (x_ix_nI (by omega) (by omega)) ?_
            obtain ⟨F7, hF7⟩ : ∃ F7, F7 = x_up (x_up F6 17 (S.1 1 0 0) (nI u.1)) 12 1 (nI (S.1 1 0 0 + 1)) := ⟨_, rfl⟩
            have hR7 : x_RC a m u.2 F7 G6 := by
              rw [hF7]
              exact l2
            have f7 : x_fL 12 F6 G6 F7 G6 := by
              rw [hF7]
              exact x_fL_t (x_fL_up (Or.inr (by decide))) (x_fL_up (Or.inr (by decide)))
            have b6 : v_BA (v_set (v_set S.1 10 (S.1 1 0 0) 0 x.1) 11 (S.1 1 0 0) 0 u.1) := v_BA_set b5 (by decide) (by decide) (by decide) (by decide) (by decide) (by decide) (Nat.zero_le _) (Nat.le_trans k5.2 (by decide))
            have e0 : v_set (v_set S.1 10 (S.1 1 0 0) 0 x.1) 11 (S.1 1 0 0) 0 u.1 1 0 0 = S.1 1 0 0 := (v_set_c (by decide)).trans (v_set_c (by decide))
            have e10 : v_set (v_set S.1 10 (S.1 1 0 0) 0 x.1) 11 (S.1 1 0 0) 0 u.1 10 (S.1 1 0 0) 0 = x.1 := (v_set_c (by decide)).trans (v_set_s _ _ _ _ _)
            have e11 : v_set (v_set S.1 10 (S.1 1 0 0) 0 x.1) 11 (S.1 1 0 0) 0 u.1 11 (S.1 1 0 0) 0 = u.1 := v_set_s _ _ _ _ _
            have hB7 : v_BA (v_set (v_set (v_set S.1 10 (S.1 1 0 0) 0 x.1) 11 (S.1 1 0 0) 0 u.1) 1 0 0 (S.1 1 0 0 + 1)) := by
              have w := v_BA_more b6 (s := 1) (by decide) (by rw [e0]; show S.1 1 0 0 < 5; omega) (fun c hc => by
                rcases hc with ⟨h1, -⟩ | ⟨-, rfl | rfl⟩ | ⟨h1, -⟩
                · omega
                · rw [e0, e10]
                  exact k3.2
                · rw [e0, e11]
                  exact ⟨Nat.zero_le _, Nat.le_trans k5.2 (by decide)⟩
                · omega)
              rw [e0] at w
              exact w
            have c7 : v_CA F7 G6 12 (v_set (v_set (v_set S.1 10 (S.1 1 0 0) 0 x.1) 11 (S.1 1 0 0) 0 u.1) 1 0 0 (S.1 1 0 0 + 1)) := by
              have w := v_CA_set c6 (vp := v_set S.1 1 0 0 (S.1 1 0 0 + 1)) (fun c i j h => v_al_up (s := 1) (by decide) ((v_al_set (by decide)).mp h)) (by rw [v_set_c (by decide)]; omega) (by rw [v_set_s]; omega) (c := 11) (i := S.1 1 0 0) (j := 0) (x := u.1) (vup 11 (Or.inr rfl)) (by decide)
              have w2 := v_CA_more w (s := 1) (by decide) (by rw [v_set_c (by decide), v_set_c (by decide)]; exact b0) (by rw [e0]; exact b1) (fun c hc => by
                rcases hc with ⟨h1, -⟩ | ⟨-, rfl | rfl⟩ | ⟨h1, -⟩
                · omega
                · rw [e0, e10]
                  refine (congrFun (x_up_k (by decide)) _).trans ?_
                  show F6 16 (S.1 1 0 0) = nI x.1
                  rw [l1.1 16 (by decide), hF5]
                  exact x_up_s _ _ _ _
                · rw [e0, e11]
                  exact x_up_s _ _ _ _
                · omega)
              rw [e0] at w2
              rw [hF7]
              exact w2
            have g6 : G6 14 = va_up (G1 14) (4 + S.1 1 0 0) (y_lt a m (y_nxt a m q)) := by rw [l1.2 14 (by decide)]; exact g4
            have st : x_LS 12 a m (v_set (v_set (v_set S.1 10 (S.1 1 0 0) 0 x.1) 11 (S.1 1 0 0) 0 u.1) 1 0 0 (S.1 1 0 0 + 1), y.1, S.2.2) u.2 F7 G6 := by
              refine ⟨hR7, c7, ?_, fun i hi => ?_⟩
              · rw [g6, k1.2]
                refine y_NR_up s1.2.2.1 (fun i hi => Or.inl ?_) (fun i hi => ?_) (fun i hi => Or.inl ?_)
                · have hi : i < v_set (v_set (v_set S.1 10 (S.1 1 0 0) 0 x.1) 11 (S.1 1 0 0) 0 u.1) 1 0 0 (S.1 1 0 0 + 1) 0 0 0 := hi
                  rw [v_set_c (by decide), v_set_c (by decide), v_set_c (by decide)] at hi
                  exact hi
                · have hi : i < v_set (v_set (v_set S.1 10 (S.1 1 0 0) 0 x.1) 11 (S.1 1 0 0) 0 u.1) 1 0 0 (S.1 1 0 0 + 1) 1 0 0 := hi
                  rw [v_set_s] at hi
                  omega
                · have hi : i < v_set (v_set (v_set S.1 10 (S.1 1 0 0) 0 x.1) 11 (S.1 1 0 0) 0 u.1) 1 0 0 (S.1 1 0 0 + 1) 2 0 0 := hi
                  rw [v_set_c (by decide), v_set_c (by decide), v_set_c (by decide)] at hi
                  exact hi
              · have e : F7 601 = f 601 := by
                  rw [hF7]
                  exact (x_up_k (by decide)).trans ((x_up_k (by decide)).trans ((l1.1 601 (by decide)).trans (by rw [hF5]; exact (x_up_k (by decide)).trans t4)))
                rw [e]
                exact hS.2.2.2 i hi
            have hF7' : F7 = x_up (x_up F6 17 (nI (S.1 1 0 0)).toNatClampNeg (F6 10 9)) 12 1 (F6 12 1 + Int32.ofInt 1) := by rw [hF7, nI_clamp (by omega), l3, hG6, nI_1o]
            show ∃ P, x_Ct 86 (d + 3) [.ref 10, .int 59] (x_up (x_up F6 17 (nI (S.1 1 0 0)).toNatClampNeg (F6 10 9)) 12 1 (F6 12 1 + Int32.ofInt 1), G6, x_HR 22 t, dm, n) P ∧ _
            rw [← hF7']
            refine Exists.intro _ (And.intro (c_takeSign (c := 59) hT hR7 (by decide) (by decide)) (And.intro (And.intro (Nat.zero_le _) (Nat.zero_le _)) (fun zq h' hpo => ?_)))
            cases e4 : y_sgn a m 59 u.2 with
            | inl e =>
              obtain ⟨rfl, F8, G8, rfl, i1, i2⟩ := x_PT_l e4 hpo
              refine And.intro ?_ ⟨Or.inl rfl, Nat.le_refl _, Nat.le_refl _⟩
              rw [hPo]
              refine x_PLd_l ((eY _ e1).trans ?_) (x_fL_t n4 (x_fL_t (x_fL_t f5 (x_fL_10 l1)) (x_fL_t f7 (x_fL_10 i1)))) i2 (v_CA_10 hL i1 c7) hB7
              show y_bd (y_wrd a m (nI 8) y.2) _ = _
              rw [e2]
              show y_bd (y_nbr a m 1 99 q3) _ = _
              rw [e3]
              show y_bd (y_chc a m (nI 9) 999 10 x.2) _ = _
              rw [e5]
              show y_bd (y_sgn a m 59 u.2) _ = _
              rw [e4]
              rfl
            | inr q5 =>
              obtain ⟨rfl, F8, G8, rfl, i1, i2⟩ := x_PT_r e4 hpo
              refine And.intro ?_ ⟨Or.inr rfl, Nat.le_refl _, Nat.le_refl _⟩
              rw [hPo]
              refine x_PLd_r (w := ((v_set (v_set (v_set S.1 10 (S.1 1 0 0) 0 x.1) 11 (S.1 1 0 0) 0 u.1) 1 0 0 (S.1 1 0 0 + 1), y.1, S.2.2), q5)) ((eY _ e1).trans ?_) (x_fL_t n4 (x_fL_t (x_fL_t f5 (x_fL_10 l1)) (x_fL_t f7 (x_fL_10 i1)))) (x_LS_10 hL st i1 i2.1)
              show y_bd (y_wrd a m (nI 8) y.2) _ = _
              rw [e2]
              show y_bd (y_nbr a m 1 99 q3) _ = _
              rw [e3]
              show y_bd (y_chc a m (nI 9) 999 10 x.2) _ = _
              rw [e5]
              show y_bd (y_sgn a m 59 u.2) _ = _
              rw [e4]
              rfl
theorem c_readPerson_12 (hT : y_TP a m) (hB : v_BA S.1) (hS : x_LS 12 a m S q f g) (hw : y_sa a m q = 1) : x_Ct 40 (d + 4) [.ref 600] (f, g, x_HR 22 t, dm, n) (x_PLd 12 a m f g (x_HR 22 t) dm n (y_pers a m S q)) := by
  obtain ⟨Po, hPo⟩ : ∃ Po : Option Value → xH → Prop, Po = x_PLd 12 a m f g (x_HR 22 t) dm n (y_pers a m S q) := ⟨_, rfl⟩
  rw [← hPo]
  have hL : (12 : Nat) = 12 ∨ (12 : Nat) = 22 := by decide
  have h0 : f 12 0 = nI (S.1 0 0 0) := hS.2.1.1 0 0 0 ⟨rfl, rfl⟩
  have h1 : f 12 1 = nI (S.1 1 0 0) := hS.2.1.1 1 0 0 ⟨rfl, rfl⟩
  have h2 : f 12 2 = nI (S.1 2 0 0) := hS.2.1.1 2 0 0 ⟨rfl, rfl⟩
  have b0 := v_BA_K hB
  have b1 := v_BA_G hB
  have b2 := v_BA_P hB
  have hn := y_nxt_gt (a := a) (m := m) (q := q) (by rw [hw]; decide)
  refine x_Ct_w (by decide) (Nat.le_of_ble_eq_true rfl) ok40 [8] 6 ?_
  show x_J 40 (d + 4) Po 8 [some (.ref 600), some (.int (f 12 2))] [] (f, g, x_HR 22 t, dm, n) 0 0
  rw [h2]
  have no : ∀ F G, Po (some (.int 0)) (F, G, x_HR 22 t, dm, n) → x_J 40 (d + 4) Po 61 [some (.ref 600), some (.int (nI (S.1 2 0 0)))] [] (F, G, x_HR 22 t, dm, n) 0 0 := by
    intro F G h
    refine x_wp_ok ok40 [] 6 ?_
    refine And.intro ?_ ⟨Or.inl rfl, Nat.le_refl _, Nat.le_refl _⟩
    exact h
  refine x_wp_ok ok40 [61] 6 ?_
  by_cases c : S.1 2 0 0 = 5
  · refine And.intro (fun k => absurd (show nI (S.1 2 0 0) < nI 5 from k) (nI_nlt (by omega) (by omega))) (fun _ => ?_)
    refine Exists.intro _ (And.intro (c_fail (k := 6) hS.1) (And.intro (And.intro (Nat.zero_le _) (Nat.zero_le _)) (fun zq h' hpo => ?_)))
    obtain ⟨rfl, F1, rfl, u1, u2⟩ := hpo
    refine And.intro ?_ ⟨Or.inl rfl, Nat.le_refl _, Nat.le_refl _⟩
    rw [hPo]
    exact x_PLd_l (if_pos c) (x_fL_10 u1) u2 (v_CA_10 hL u1 hS.2.1) hB
  · refine And.intro (fun _ => ?_) (fun k => absurd (show nI (S.1 2 0 0) < nI 5 from nI_lt (by omega) (by decide)) k)
    have eY : ∀ Y, y_new a m S.2.1 (S.1 0 0 0) (S.1 1 0 0) (S.1 2 0 0) (9 + S.1 2 0 0) (y_nxt a m q) = Y → y_pers a m S q = y_bd Y (fun z => y_bd (y_chc a m 10 9999 0 z.2) (fun y => y_bd (y_sgn a m 59 y.2) (fun q3 => .inr ((v_set (v_set S.1 12 (S.1 2 0 0) 0 y.1) 2 0 0 (S.1 2 0 0 + 1), z.1, S.2.2), q3)))) := by
      intro Y hY
      unfold y_pers
      rw [if_neg c, hY]
    refine Exists.intro _ (And.intro (c_adv hT hS.1 (by rw [hw]; decide) (by rw [hw]; decide)) (And.intro (And.intro (Nat.zero_le _) (Nat.zero_le _)) (fun zq h' hpo => ?_)))
    obtain ⟨rfl, F1, G1, rfl, u1, -, u3⟩ := hpo
    have s1 := x_LS_10 hL hS u1 u3
    show ∃ P, x_Ct 91 (d + 3) [.ref 10, .ref 12, .int (nI 9 + nI (S.1 2 0 0))] (F1, G1, x_HR 22 t, dm, n) P ∧ _
    rw [nI_add]
    refine Exists.intro _ (And.intro (c_takeNewName_12 (v := S.1) (N := S.2.1) hT hn.2 u3 (by omega) (by rw [u1.1 12 (by decide)]; exact h0) (by rw [u1.1 12 (by decide)]; exact h1) (by rw [u1.1 12 (by decide)]; exact h2) b0 b1 b2 s1.2.2.1) (And.intro (And.intro (Nat.zero_le _) (Nat.zero_le _)) (fun zq h' hpo => ?_)))
    cases e1 : y_new a m S.2.1 (S.1 0 0 0) (S.1 1 0 0) (S.1 2 0 0) (9 + S.1 2 0 0) (y_nxt a m q) with
    | inl e =>
      obtain ⟨rfl, F2, G2, rfl, w1, w2⟩ := x_PNn_l e1 hpo
      refine And.intro (fun _ => ?_) (fun c => absurd rfl c)
      refine no F2 G2 ?_
      rw [hPo]
      exact x_PLd_l (eY _ e1) (x_fL_t (x_fL_10 u1) (x_fL_10 w1)) w2 (v_CA_10 hL w1 s1.2.1) hB
    | inr y =>
      obtain ⟨rfl, F2, G2, rfl, w1, w2⟩ := x_PNn_r e1 hpo
      have k1 := y_new_gt e1
      have n2 : x_fL 12 f g F2 G2 := x_fL_t (x_fL_10 u1) (x_fL_t (x_fL_gp (by decide)) (x_fL_10 w1))
      have c2 : v_CA F2 G2 12 S.1 := v_CA_10 hL w1 (v_CA_n s1.2.1)
      have g2 : G2 14 = va_up (G1 14) (9 + S.1 2 0 0) (y_lt a m (y_nxt a m q)) := by rw [w1.2 14 (by decide)]; exact x_up_c
      have t2 : F2 601 = f 601 := (w1.1 601 (by decide)).trans (u1.1 601 (by decide))
      refine And.intro (fun c => absurd (show (1 : Int32) = 0 from c) (by decide)) (fun _ => ?_)
      refine Exists.intro _ (And.intro (c_readChoice_12 (w := 10) (c := 9) (hi := 9999) (df := 0) rfl (by decide) (by decide) hT w2) (And.intro (And.intro (Nat.zero_le _) (Nat.zero_le _)) (fun zq h' hpo => ?_)))
      cases e5 : y_chc a m (nI 10) 9999 0 y.2 with
      | inl e =>
        obtain ⟨rfl, F6, G6, rfl, l1, l2⟩ := x_PT_l e5 hpo
        refine And.intro (fun c => absurd rfl c) (fun _ => ?_)
        refine no F6 G6 ?_
        rw [hPo]
        refine x_PLd_l ((eY _ e1).trans ?_) (x_fL_t n2 (x_fL_10 l1)) l2 (v_CA_10 hL l1 c2) hB
        show y_bd (y_chc a m (nI 10) 9999 0 y.2) _ = _
        rw [e5]
        rfl
      | inr u =>
        obtain ⟨rfl, F6, G6, rfl, l1, l2, l3⟩ := x_PT_r e5 hpo
        have k5 := y_chc_gt (by decide) (by decide) k1.1.2 e5
        have c6 := v_CA_10 hL l1 c2
        have hG6 : F6 12 2 = nI (S.1 2 0 0) := c6.1 2 0 0 ⟨rfl, rfl⟩
        refine And.intro (fun _ => ?_) (fun c => absurd (show (1 : Int32) = 0 from c) (by decide))
        refine And.intro (x_ix_nI (by omega) (by omega)) ?_
        obtain ⟨F7, hF7⟩ : ∃ F7, F7 = x_up (x_up F6 18 (S.1 2 0 0) (nI u.1)) 12 2 (nI (S.1 2 0 0 + 1)) := ⟨_, rfl⟩
        have hR7 : x_RC a m u.2 F7 G6 := by
          rw [hF7]
          exact l2
        have f7 : x_fL 12 F6 G6 F7 G6 := by
          rw [hF7]
          exact x_fL_t (x_fL_up (Or.inr (by decide))) (x_fL_up (Or.inr (by decide)))
        have b6 : v_BA (v_set S.1 12 (S.1 2 0 0) 0 u.1) := v_BA_set hB (by decide) (by decide) (by decide) (by decide) (by decide) (by decide) (Nat.zero_le _) (Nat.le_trans k5.2 (by decide))
        have e0 : v_set S.1 12 (S.1 2 0 0) 0 u.1 2 0 0 = S.1 2 0 0 := v_set_c (by decide)
        have e12 : v_set S.1 12 (S.1 2 0 0) 0 u.1 12 (S.1 2 0 0) 0 = u.1 := v_set_s _ _ _ _ _
        have hB7 : v_BA (v_set (v_set S.1 12 (S.1 2 0 0) 0 u.1) 2 0 0 (S.1 2 0 0 + 1)) := by
          have w := v_BA_more b6 (s := 2) (by decide) (by rw [e0]; show S.1 2 0 0 < 5; omega) (fun c hc => by
            rcases hc with ⟨h1, -⟩ | ⟨h1, -⟩ | ⟨-, rfl⟩
            · omega
            · omega
            · rw [e0, e12]
              exact ⟨Nat.zero_le _, Nat.le_trans k5.2 (by decide)⟩)
          rw [e0] at w
          exact w
        have c7 : v_CA F7 G6 12 (v_set (v_set S.1 12 (S.1 2 0 0) 0 u.1) 2 0 0 (S.1 2 0 0 + 1)) := by
          have w := v_CA_set c6 (vp := v_set S.1 2 0 0 (S.1 2 0 0 + 1)) (fun c i j h => v_al_up (s := 2) (by decide) h) (by rw [v_set_c (by decide)]; omega) (by rw [v_set_c (by decide)]; omega) (c := 12) (i := S.1 2 0 0) (j := 0) (x := u.1) (by
            show S.1 2 0 0 < v_set S.1 2 0 0 (S.1 2 0 0 + 1) 2 0 0 ∧ 0 = 0
            rw [v_set_s]
            omega) (by decide)
          have w2 := v_CA_more w (s := 2) (by decide) (by rw [v_set_c (by decide)]; exact b0) (by rw [v_set_c (by decide)]; exact b1) (fun c hc => by
            rcases hc with ⟨h1, -⟩ | ⟨h1, -⟩ | ⟨-, rfl⟩
            · omega
            · omega
            · rw [e0, e12]
              exact x_up_s _ _ _ _)
          rw [e0] at w2
          rw [hF7]
          exact w2
        have g6 : G6 14 = va_up (G1 14) (9 + S.1 2 0 0) (y_lt a m (y_nxt a m q)) := by rw [l1.2 14 (by decide)]; exact g2
        have st : x_LS 12 a m (v_set (v_set S.1 12 (S.1 2 0 0) 0 u.1) 2 0 0 (S.1 2 0 0 + 1), y.1, S.2.2) u.2 F7 G6 := by
          refine ⟨hR7, c7, ?_, fun i hi => ?_⟩
          · rw [g6, k1.2]
            refine y_NR_up s1.2.2.1 (fun i hi => Or.inl ?_) (fun i hi => Or.inl ?_) (fun i hi => ?_)
            · have hi : i < v_set (v_set S.1 12 (S.1 2 0 0) 0 u.1) 2 0 0 (S.1 2 0 0 + 1) 0 0 0 := hi
              rw [v_set_c (by decide), v_set_c (by decide)] at hi
              exact hi
            · have hi : i < v_set (v_set S.1 12 (S.1 2 0 0) 0 u.1) 2 0 0 (S.1 2 0 0 + 1) 1 0 0 := hi
              rw [v_set_c (by decide), v_set_c (by decide)] at hi
              exact hi
            · have hi : i < v_set (v_set S.1 12 (S.1 2 0 0) 0 u.1) 2 0 0 (S.1 2 0 0 + 1) 2 0 0 := hi
              rw [v_set_s] at hi
              omega
          · have e : F7 601 = f 601 := by
              rw [hF7]
              exact (x_up_k (by decide)).trans ((x_up_k (by decide)).trans ((l1.1 601 (by decide)).trans t2))
            rw [e]
            exact hS.2.2.2 i hi
        have hF7' : F7 = x_up (x_up F6 18 (nI (S.1 2 0 0)).toNatClampNeg (F6 10 9)) 12 2 (F6 12 2 + Int32.ofInt 1) := by rw [hF7, nI_clamp (by omega), l3, hG6, nI_1o]
        show ∃ P, x_Ct 86 (d + 3) [.ref 10, .int 59] (x_up (x_up F6 18 (nI (S.1 2 0 0)).toNatClampNeg (F6 10 9)) 12 2 (F6 12 2 + Int32.ofInt 1), G6, x_HR 22 t, dm, n) P ∧ _
        rw [← hF7']
        refine Exists.intro _ (And.intro (c_takeSign (c := 59) hT hR7 (by decide) (by decide)) (And.intro (And.intro (Nat.zero_le _) (Nat.zero_le _)) (fun zq h' hpo => ?_)))
        cases e4 : y_sgn a m 59 u.2 with
        | inl e =>
          obtain ⟨rfl, F8, G8, rfl, i1, i2⟩ := x_PT_l e4 hpo
          refine And.intro ?_ ⟨Or.inl rfl, Nat.le_refl _, Nat.le_refl _⟩
          rw [hPo]
          refine x_PLd_l ((eY _ e1).trans ?_) (x_fL_t n2 (x_fL_t (x_fL_10 l1) (x_fL_t f7 (x_fL_10 i1)))) i2 (v_CA_10 hL i1 c7) hB7
          show y_bd (y_chc a m (nI 10) 9999 0 y.2) _ = _
          rw [e5]
          show y_bd (y_sgn a m 59 u.2) _ = _
          rw [e4]
          rfl
        | inr q5 =>
          obtain ⟨rfl, F8, G8, rfl, i1, i2⟩ := x_PT_r e4 hpo
          refine And.intro ?_ ⟨Or.inr rfl, Nat.le_refl _, Nat.le_refl _⟩
          rw [hPo]
          refine x_PLd_r (w := ((v_set (v_set S.1 12 (S.1 2 0 0) 0 u.1) 2 0 0 (S.1 2 0 0 + 1), y.1, S.2.2), q5)) ((eY _ e1).trans ?_) (x_fL_t n2 (x_fL_t (x_fL_10 l1) (x_fL_t f7 (x_fL_10 i1)))) (x_LS_10 hL st i1 i2.1)
          show y_bd (y_chc a m (nI 10) 9999 0 y.2) _ = _
          rw [e5]
          show y_bd (y_sgn a m 59 u.2) _ = _
          rw [e4]
          rfl
theorem c_readHas_12 (hT : y_TP a m) (hB : v_BA S.1) (hS : x_LS 12 a m S q f g) (hw : y_sa a m q = 1) : x_Ct 42 (d + 3) [.ref 600] (f, g, x_HR 22 t, dm, n) (x_PLd 12 a m f g (x_HR 22 t) dm n (y_has a m S q)) := by
  obtain ⟨Po, hPo⟩ : ∃ Po : Option Value → xH → Prop, Po = x_PLd 12 a m f g (x_HR 22 t) dm n (y_has a m S q) := ⟨_, rfl⟩
  rw [← hPo]
  have hL : (12 : Nat) = 12 ∨ (12 : Nat) = 22 := by decide
  have h0 : f 12 0 = nI (S.1 0 0 0) := hS.2.1.1 0 0 0 ⟨rfl, rfl⟩
  have h2 : f 12 2 = nI (S.1 2 0 0) := hS.2.1.1 2 0 0 ⟨rfl, rfl⟩
  have b0 := v_BA_K hB
  have b1 := v_BA_G hB
  have b2 := v_BA_P hB
  have hn := y_nxt_gt (a := a) (m := m) (q := q) (by rw [hw]; decide)
  refine x_Ct_w (by decide) (Nat.le_of_ble_eq_true rfl) ok42 [33, 58] 6 ?_
  refine Exists.intro _ (And.intro (c_adv hT hS.1 (by rw [hw]; decide) (by rw [hw]; decide)) (And.intro (And.intro (Nat.zero_le _) (Nat.zero_le _)) (fun zq h' hpo => ?_)))
  obtain ⟨rfl, F1, G1, rfl, u1, -, u3⟩ := hpo
  have s1 := x_LS_10 hL hS u1 u3
  refine Exists.intro _ (And.intro (c_takeOldName_12_9 (N := S.2.1) (M := S.1 2 0 0) hT hn.2 u3 (by rw [u1.1 12 (by decide)]; exact h2) b2 (y_NR_9 s1.2.2.1 _)) (And.intro (And.intro (Nat.zero_le _) (Nat.zero_le _)) (fun zq h' hpo => ?_)))
  cases e1 : y_old a m S.2.1 9 (S.1 2 0 0) (y_nxt a m q) with
  | inl e =>
    obtain ⟨rfl, F2, G2, rfl, w1, w2⟩ := x_PT_l e1 hpo
    refine And.intro (fun c => absurd rfl c) (fun _ => ?_)
    refine And.intro ?_ ⟨Or.inl rfl, Nat.le_refl _, Nat.le_refl _⟩
    rw [hPo]
    refine x_PLd_l ?_ (x_fL_t (x_fL_10 u1) (x_fL_10 w1)) w2 (v_CA_10 hL w1 s1.2.1) hB
    unfold y_has
    rw [e1]
    rfl
  | inr y =>
    obtain ⟨rfl, F2, G2, rfl, w1, w2, w3⟩ := x_PT_r e1 hpo
    have k1 := y_old_gt e1
    have s2 := x_LS_10 hL s1 w1 w2
    refine And.intro (fun _ => ?_) (fun c => absurd (show (1 : Int32) = 0 from c) (by decide))
    show x_J 42 (d + 3) Po 33 [some (.ref 600), some (.int (F2 10 9)), none] [] (F2, G2, x_HR 22 t, dm, n) 0 0
    rw [w3]
    refine x_wp_ok ok42 [58] 6 ?_
    refine Exists.intro _ (And.intro (c_takeOldName_12_0 (N := S.2.1) (M := S.1 0 0 0) hT k1.1.2 w2 (by rw [w1.1 12 (by decide), u1.1 12 (by decide)]; exact h0) b0 (y_NR_0 s2.2.2.1 _)) (And.intro (And.intro (Nat.zero_le _) (Nat.zero_le _)) (fun zq h' hpo => ?_)))
    cases e2 : y_old a m S.2.1 0 (S.1 0 0 0) y.2 with
    | inl e =>
      obtain ⟨rfl, F3, G3, rfl, p1, p2⟩ := x_PT_l e2 hpo
      refine And.intro (fun c => absurd rfl c) (fun _ => ?_)
      refine And.intro ?_ ⟨Or.inl rfl, Nat.le_refl _, Nat.le_refl _⟩
      rw [hPo]
      refine x_PLd_l ?_ (x_fL_t (x_fL_10 u1) (x_fL_t (x_fL_10 w1) (x_fL_10 p1))) p2 (v_CA_10 hL p1 s2.2.1) hB
      unfold y_has
      rw [e1]
      show y_bd (y_old a m S.2.1 0 (S.1 0 0 0) y.2) _ = _
      rw [e2]
      rfl
    | inr u =>
      obtain ⟨rfl, F3, G3, rfl, p1, p2, p3⟩ := x_PT_r e2 hpo
      have k2 := y_old_gt e2
      have s3 := x_LS_10 hL s2 p1 p2
      refine And.intro (fun _ => ?_) (fun c => absurd (show (1 : Int32) = 0 from c) (by decide))
      show x_J 42 (d + 3) Po 58 [some (.ref 600), some (.int (nI y.1)), some (.int (F3 10 9))] [] (F3, G3, x_HR 22 t, dm, n) 0 0
      rw [p3]
      refine x_wp_ok ok42 [] 6 ?_
      refine Exists.intro _ (And.intro (c_takeNumber (lo := 0) (hi := 999) (by decide) (by decide) hT p2) (And.intro (And.intro (Nat.zero_le _) (Nat.zero_le _)) (fun zq h' hpo => ?_)))
      cases e3 : y_nbr a m 0 999 u.2 with
      | inl e =>
        obtain ⟨rfl, F4, G4, rfl, o1, o2⟩ := x_PT_l e3 hpo
        refine And.intro (fun c => absurd rfl c) (fun _ => ?_)
        refine And.intro ?_ ⟨Or.inl rfl, Nat.le_refl _, Nat.le_refl _⟩
        rw [hPo]
        refine x_PLd_l ?_ (x_fL_t (x_fL_10 u1) (x_fL_t (x_fL_10 w1) (x_fL_t (x_fL_10 p1) (x_fL_10 o1)))) o2 (v_CA_10 hL o1 s3.2.1) hB
        unfold y_has
        rw [e1]
        show y_bd (y_old a m S.2.1 0 (S.1 0 0 0) y.2) _ = _
        rw [e2]
        show y_bd (y_nbr a m 0 999 u.2) _ = _
        rw [e3]
        rfl
      | inr x =>
        obtain ⟨rfl, F4, G4, rfl, o1, o2, o3⟩ := x_PT_r e3 hpo
        have k3 := y_nbr_gt e3
        have s4 := x_LS_10 hL s3 o1 o2
        refine And.intro (fun _ => ?_) (fun c => absurd (show (1 : Int32) = 0 from c) (by decide))
        refine Exists.intro _ (And.intro c_purse (And.intro (And.intro (Nat.zero_le _) (Nat.zero_le _)) (fun q h' hpo => ?_)))
        obtain ⟨rfl, rfl⟩ := hpo
        have ep : nI y.1 * 4 + nI u.1 = nI (4 * y.1 + u.1) := x_pl4 y.1 u.1
        refine And.intro (by show x_ix (nI y.1 * 4 + nI u.1) 20; rw [ep]; exact x_ix_nI (by omega) (by omega)) ?_
        obtain ⟨F5, hF5⟩ : ∃ F5, F5 = x_up F4 19 (4 * y.1 + u.1) (nI x.1) := ⟨_, rfl⟩
        have hR5 : x_RC a m x.2 F5 G4 := by
          rw [hF5]
          exact o2
        have f5 : x_fL 12 F4 G4 F5 G4 := by
          rw [hF5]
          exact x_fL_up (Or.inr (by decide))
        have b5 : v_BA (v_set S.1 13 y.1 u.1 x.1) := v_BA_set hB (by decide) (by decide) (by decide) (by decide) (by decide) (by decide) (Nat.zero_le _) (Nat.le_trans k3.2.2 (by decide))
        have c5 : v_CA F5 G4 12 (v_set S.1 13 y.1 u.1 x.1) := by
          rw [hF5]
          exact v_CA_set s4.2.1 (fun _ _ _ h => h) (Nat.le_trans b0 (by decide)) (Nat.le_trans b1 (by decide)) (c := 13) (i := y.1) (j := u.1) (show y.1 < 5 ∧ u.1 < 4 by omega) (by decide)
        have st : x_LS 12 a m (v_set S.1 13 y.1 u.1 x.1, S.2.1, S.2.2) x.2 F5 G4 := by
          refine ⟨hR5, c5, y_NR_v s4.2.2.1 (show v_set S.1 13 y.1 u.1 x.1 0 0 0 = S.1 0 0 0 from v_set_c (by decide)) (show v_set S.1 13 y.1 u.1 x.1 1 0 0 = S.1 1 0 0 from v_set_c (by decide)) (show v_set S.1 13 y.1 u.1 x.1 2 0 0 = S.1 2 0 0 from v_set_c (by decide)), fun i hi => ?_⟩
          have e : F5 601 = F4 601 := by
            rw [hF5]
            exact x_up_k (by decide)
          rw [e]
          exact s4.2.2.2 i hi
        have hF5' : F5 = x_up F4 19 (nI y.1 * 4 + nI u.1).toNatClampNeg (F4 10 9) := by rw [hF5, ep, nI_clamp (by omega), o3]
        show ∃ P, x_Ct 86 (d + 2) [.ref 10, .int 59] (x_up F4 19 (nI y.1 * 4 + nI u.1).toNatClampNeg (F4 10 9), G4, x_HR 22 t, dm, n) P ∧ _
        rw [← hF5']
        refine Exists.intro _ (And.intro (c_takeSign (c := 59) hT hR5 (by decide) (by decide)) (And.intro (And.intro (Nat.zero_le _) (Nat.zero_le _)) (fun zq h' hpo => ?_)))
        cases e4 : y_sgn a m 59 x.2 with
        | inl e =>
          obtain ⟨rfl, F6, G6, rfl, i1, i2⟩ := x_PT_l e4 hpo
          refine And.intro ?_ ⟨Or.inl rfl, Nat.le_refl _, Nat.le_refl _⟩
          rw [hPo]
          refine x_PLd_l ?_ (x_fL_t (x_fL_10 u1) (x_fL_t (x_fL_10 w1) (x_fL_t (x_fL_10 p1) (x_fL_t (x_fL_10 o1) (x_fL_t f5 (x_fL_10 i1)))))) i2 (v_CA_10 hL i1 c5) b5
          unfold y_has
          rw [e1]
          show y_bd (y_old a m S.2.1 0 (S.1 0 0 0) y.2) _ = _
          rw [e2]
          show y_bd (y_nbr a m 0 999 u.2) _ = _
          rw [e3]
          show y_bd (y_sgn a m 59 x.2) _ = _
          rw [e4]
          rfl
        | inr q5 =>
          obtain ⟨rfl, F6, G6, rfl, i1, i2⟩ := x_PT_r e4 hpo
          refine And.intro ?_ ⟨Or.inr rfl, Nat.le_refl _, Nat.le_refl _⟩
          rw [hPo]
          refine x_PLd_r (w := ((v_set S.1 13 y.1 u.1 x.1, S.2.1, S.2.2), q5)) ?_ (x_fL_t (x_fL_10 u1) (x_fL_t (x_fL_10 w1) (x_fL_t (x_fL_10 p1) (x_fL_t (x_fL_10 o1) (x_fL_t f5 (x_fL_10 i1)))))) (x_LS_10 hL st i1 i2.1)
          unfold y_has
          rw [e1]
          show y_bd (y_old a m S.2.1 0 (S.1 0 0 0) y.2) _ = _
          rw [e2]
          show y_bd (y_nbr a m 0 999 u.2) _ = _
          rw [e3]
          show y_bd (y_sgn a m 59 x.2) _ = _
          rw [e4]
          rfl
end C81
