/-! kinds, goods, people, sheets: the class reads them -/
section C80
variable {f : Nat → Nat → Int32} {g : Nat → Nat → Int64} {r t : Nat} {dm : List Nat} {n d L : Nat} {v : xV} {a : Nat → Int32} {m q : Nat} {N : Nat → Int64} {S : xL} {ρ : Nat → Nat → Option Nat} {X : xF (xL × Nat)} {z : Option Value} {h' : xH} {e : Nat × Nat} {w : xL × Nat} {F : Nat → Nat → Int32} {G : Nat → Nat → Int64}
theorem x_PNn_l {p : Nat} {Y : xF ((Nat → Int64) × Nat)} (hX : Y = .inl e) (h : x_PNn L p a m q f g ρ dm n Y z h') : z = some (.int 0) ∧ ∃ F G, h' = (F, G, ρ, dm, n) ∧ x_f10 f g F G ∧ x_FL F e := by
  subst hX
  exact h
theorem x_PNn_r {p : Nat} {Y : xF ((Nat → Int64) × Nat)} {y : (Nat → Int64) × Nat} (hX : Y = .inr y) (h : x_PNn L p a m q f g ρ dm n Y z h') : z = some (.int 1) ∧ ∃ F G, h' = (F, G, ρ, dm, n) ∧ x_f10 f (x_up g (L + 2) p (y_lt a m q)) F G ∧ x_RC a m y.2 F G := by
  subst hX
  exact h
theorem v_CA_n {p : Nat} {x : Int64} (h : v_CA f g L v) : v_CA f (x_up g (L + 2) p x) L v := v_CA_fr h (fun _ _ _ => rfl) (x_up_k (by omega))
theorem c_readChoice_22 {w hi df : Nat} {c : Int32} (hc : c = y_tr (nI w)) (hw : w < 25) (hhi : hi < 2 ^ 31) (hT : y_TP a m) (hR : x_RC a m q f g) : x_Ct 41 (d + 3) [.ref 600, .int c, .int (nI hi), .int (nI df)] (f, g, x_HR 12 t, dm, n) (x_PT f g (x_HR 12 t) dm n (y_chc a m (nI w) hi df q) (fun z F G => x_RC a m z.2 F G ∧ F 10 9 = nI z.1)) := by
  have no : ¬ nI w = -1 := by
    have : ∀ j, j < 25 → ¬ nI j = -1 := by decide +kernel
    exact this w hw
  obtain ⟨Po, hPo⟩ : ∃ Po : Option Value → xH → Prop, Po = x_PT f g (x_HR 12 t) dm n (y_chc a m (nI w) hi df q) (fun z F G => x_RC a m z.2 F G ∧ F 10 9 = nI z.1) := ⟨_, rfl⟩
  rw [← hPo]
  refine x_Ct_w (by decide) (Nat.le_of_ble_eq_true rfl) ok41 [] 6 ?_
  refine And.intro (fun k => ?_) (fun k => ?_)
  · have k : f 10 7 = c := k
    rw [hR.2.2.2.2.1, hc, y_tr_eq a m q hw] at k
    have h1 := y_wm_sa (a := a) (m := m) (q := q) (by rw [k]; exact no)
    refine Exists.intro _ (And.intro (c_adv hT hR (by rw [h1]; decide) (by rw [h1]; decide)) (And.intro (And.intro (Nat.zero_le _) (Nat.zero_le _)) (fun zq h' hpo => ?_)))
    obtain ⟨rfl, F1, G1, rfl, u1, -, u3⟩ := hpo
    refine Exists.intro _ (And.intro (c_takeNumber (lo := 0) (hi := hi) (by decide) hhi hT u3) (And.intro (And.intro (Nat.zero_le _) (Nat.zero_le _)) (fun zq h' hpo => ?_)))
    have eX : y_chc a m (nI w) hi df q = y_nbr a m 0 hi (y_nxt a m q) := if_pos k
    cases e1 : y_nbr a m 0 hi (y_nxt a m q) with
    | inl e =>
      obtain ⟨rfl, F2, G2, rfl, w1, w2⟩ := x_PT_l e1 hpo
      refine And.intro ?_ ⟨Or.inl rfl, Nat.le_refl _, Nat.le_refl _⟩
      rw [hPo]
      exact x_PT_L (eX.trans e1) (x_f10_t u1 w1) w2
    | inr x =>
      obtain ⟨rfl, F2, G2, rfl, w1, w2⟩ := x_PT_r e1 hpo
      refine And.intro ?_ ⟨Or.inr rfl, Nat.le_refl _, Nat.le_refl _⟩
      rw [hPo]
      exact x_PT_R (eX.trans e1) (x_f10_t u1 w1) w2
  · have k : ¬ f 10 7 = c := k
    rw [hR.2.2.2.2.1, hc, y_tr_eq a m q hw] at k
    refine And.intro ?_ ⟨Or.inr rfl, Nat.le_refl _, Nat.le_refl _⟩
    rw [hPo]
    exact x_PT_R (w := (df, q)) (if_neg k) ⟨fun c hc => x_up_k hc, fun _ _ => rfl⟩ ⟨⟨(x_up_k (by decide)).trans hR.1, hR.2⟩, x_up_s _ _ _ _⟩
theorem c_readKind_22 (hT : y_TP a m) (hB : v_BA S.1) (hS : x_LS 22 a m S q f g) (hw : y_sa a m q = 1) : x_Ct 38 (d + 3) [.ref 600] (f, g, x_HR 12 t, dm, n) (x_PLd 22 a m f g (x_HR 12 t) dm n (y_kind a m S q)) := by
  obtain ⟨Po, hPo⟩ : ∃ Po : Option Value → xH → Prop, Po = x_PLd 22 a m f g (x_HR 12 t) dm n (y_kind a m S q) := ⟨_, rfl⟩
  rw [← hPo]
  have hL : (22 : Nat) = 12 ∨ (22 : Nat) = 22 := by decide
  have h0 : f 22 0 = nI (S.1 0 0 0) := hS.2.1.1 0 0 0 ⟨rfl, rfl⟩
  have h1 : f 22 1 = nI (S.1 1 0 0) := hS.2.1.1 1 0 0 ⟨rfl, rfl⟩
  have h2 : f 22 2 = nI (S.1 2 0 0) := hS.2.1.1 2 0 0 ⟨rfl, rfl⟩
  have b0 := v_BA_K hB
  have b1 := v_BA_G hB
  have b2 := v_BA_P hB
  have hn := y_nxt_gt (a := a) (m := m) (q := q) (by rw [hw]; decide)
  refine x_Ct_w (by decide) (Nat.le_of_ble_eq_true rfl) ok38 [8] 6 ?_
  show x_J 38 (d + 3) Po 8 [some (.ref 600), some (.int (f 22 0))] [] (f, g, x_HR 12 t, dm, n) 0 0
  rw [h0]
  have no : ∀ F G, Po (some (.int 0)) (F, G, x_HR 12 t, dm, n) → x_J 38 (d + 3) Po 72 [some (.ref 600), some (.int (nI (S.1 0 0 0)))] [] (F, G, x_HR 12 t, dm, n) 0 0 := by
    intro F G h
    refine x_wp_ok ok38 [] 6 ?_
    refine And.intro ?_ ⟨Or.inl rfl, Nat.le_refl _, Nat.le_refl _⟩
    exact h
  refine x_wp_ok ok38 [72] 6 ?_
  by_cases c : S.1 0 0 0 = 4
  · refine And.intro (fun k => absurd (show nI (S.1 0 0 0) < nI 4 from k) (nI_nlt (by omega) (by omega))) (fun _ => ?_)
    refine Exists.intro _ (And.intro (c_fail (k := 6) hS.1) (And.intro (And.intro (Nat.zero_le _) (Nat.zero_le _)) (fun zq h' hpo => ?_)))
    obtain ⟨rfl, F1, rfl, u1, u2⟩ := hpo
    refine And.intro ?_ ⟨Or.inl rfl, Nat.le_refl _, Nat.le_refl _⟩
    rw [hPo]
    exact x_PLd_l (if_pos c) (x_fL_10 u1) u2 (v_CA_10 hL u1 hS.2.1) hB
  · refine And.intro (fun _ => ?_) (fun k => absurd (show nI (S.1 0 0 0) < nI 4 from nI_lt (by omega) (by decide)) k)
    have eY : ∀ Y, y_new a m S.2.1 (S.1 0 0 0) (S.1 1 0 0) (S.1 2 0 0) (S.1 0 0 0) (y_nxt a m q) = Y → y_kind a m S q = y_bd Y (fun z => y_bd (y_wrd a m 7 z.2) (fun q2 => y_bd (y_nbr a m 1 500 q2) (fun x => y_bd (y_sgn a m 59 x.2) (fun q3 => .inr ((v_set (v_set S.1 9 (S.1 0 0 0) 0 x.1) 0 0 0 (S.1 0 0 0 + 1), z.1, S.2.2), q3))))) := by
      intro Y hY
      unfold y_kind
      rw [if_neg c, hY]
    refine Exists.intro _ (And.intro (c_adv hT hS.1 (by rw [hw]; decide) (by rw [hw]; decide)) (And.intro (And.intro (Nat.zero_le _) (Nat.zero_le _)) (fun zq h' hpo => ?_)))
    obtain ⟨rfl, F1, G1, rfl, u1, -, u3⟩ := hpo
    have s1 := x_LS_10 hL hS u1 u3
    show ∃ P, x_Ct 91 (d + 2) [.ref 10, .ref 22, .int (nI 0 + nI (S.1 0 0 0))] (F1, G1, x_HR 12 t, dm, n) P ∧ _
    rw [nI_add, Nat.zero_add]
    refine Exists.intro _ (And.intro (c_takeNewName_22 (v := S.1) (N := S.2.1) hT hn.2 u3 (by omega) (by rw [u1.1 22 (by decide)]; exact h0) (by rw [u1.1 22 (by decide)]; exact h1) (by rw [u1.1 22 (by decide)]; exact h2) b0 b1 b2 s1.2.2.1) (And.intro (And.intro (Nat.zero_le _) (Nat.zero_le _)) (fun zq h' hpo => ?_)))
    cases e1 : y_new a m S.2.1 (S.1 0 0 0) (S.1 1 0 0) (S.1 2 0 0) (S.1 0 0 0) (y_nxt a m q) with
    | inl e =>
      obtain ⟨rfl, F2, G2, rfl, w1, w2⟩ := x_PNn_l e1 hpo
      refine And.intro (fun _ => ?_) (fun c => absurd rfl c)
      refine no F2 G2 ?_
      rw [hPo]
      exact x_PLd_l (eY _ e1) (x_fL_t (x_fL_10 u1) (x_fL_10 w1)) w2 (v_CA_10 hL w1 s1.2.1) hB
    | inr y =>
      obtain ⟨rfl, F2, G2, rfl, w1, w2⟩ := x_PNn_r e1 hpo
      have k1 := y_new_gt e1
      have n2 : x_fL 22 f g F2 G2 := x_fL_t (x_fL_10 u1) (x_fL_t (x_fL_gp (by decide)) (x_fL_10 w1))
      have c2 : v_CA F2 G2 22 S.1 := v_CA_10 hL w1 (v_CA_n s1.2.1)
      have g2 : G2 24 = va_up (G1 24) (S.1 0 0 0) (y_lt a m (y_nxt a m q)) := by rw [w1.2 24 (by decide)]; exact x_up_c
      have t2 : F2 601 = f 601 := (w1.1 601 (by decide)).trans (u1.1 601 (by decide))
      refine And.intro (fun c => absurd (show (1 : Int32) = 0 from c) (by decide)) (fun _ => ?_)
      refine Exists.intro _ (And.intro (c_takeWord (w := 7) (c := 4) rfl (by decide) hT w2) (And.intro (And.intro (Nat.zero_le _) (Nat.zero_le _)) (fun zq h' hpo => ?_)))
      cases e2 : y_wrd a m (nI 7) y.2 with
      | inl e =>
        obtain ⟨rfl, F3, G3, rfl, p1, p2⟩ := x_PT_l e2 hpo
        refine And.intro (fun _ => ?_) (fun c => absurd rfl c)
        refine no F3 G3 ?_
        rw [hPo]
        refine x_PLd_l ((eY _ e1).trans ?_) (x_fL_t n2 (x_fL_10 p1)) p2 (v_CA_10 hL p1 c2) hB
        show y_bd (y_wrd a m (nI 7) y.2) _ = _
        rw [e2]
        rfl
      | inr q3 =>
        obtain ⟨rfl, F3, G3, rfl, p1, p2⟩ := x_PT_r e2 hpo
        refine And.intro (fun c => absurd (show (1 : Int32) = 0 from c) (by decide)) (fun _ => ?_)
        refine Exists.intro _ (And.intro (c_takeNumber (lo := 1) (hi := 500) (by decide) (by decide) hT p2.1) (And.intro (And.intro (Nat.zero_le _) (Nat.zero_le _)) (fun zq h' hpo => ?_)))
        cases e3 : y_nbr a m 1 500 q3 with
        | inl e =>
          obtain ⟨rfl, F4, G4, rfl, o1, o2⟩ := x_PT_l e3 hpo
          refine And.intro (fun c => absurd rfl c) (fun _ => ?_)
          refine no F4 G4 ?_
          rw [hPo]
          refine x_PLd_l ((eY _ e1).trans ?_) (x_fL_t n2 (x_fL_t (x_fL_10 p1) (x_fL_10 o1))) o2 (v_CA_10 hL o1 (v_CA_10 hL p1 c2)) hB
          show y_bd (y_wrd a m (nI 7) y.2) _ = _
          rw [e2]
          show y_bd (y_nbr a m 1 500 q3) _ = _
          rw [e3]
          rfl
        | inr x =>
          obtain ⟨rfl, F4, G4, rfl, o1, o2, o3⟩ := x_PT_r e3 hpo
          have k3 := y_nbr_gt e3
          have c4 := v_CA_10 hL o1 (v_CA_10 hL p1 c2)
          have hK4 : F4 22 0 = nI (S.1 0 0 0) := c4.1 0 0 0 ⟨rfl, rfl⟩
          refine And.intro (fun _ => ?_) (fun c => absurd (show (1 : Int32) = 0 from c) (by decide))
          refine And.intro (x_ix_nI (by omega) (by omega)) ?_
          obtain ⟨F5, hF5⟩ : ∃ F5, F5 = x_up (x_up F4 25 (S.1 0 0 0) (nI x.1)) 22 0 (nI (S.1 0 0 0 + 1)) := ⟨_, rfl⟩
          have hR5 : x_RC a m x.2 F5 G4 := by
            rw [hF5]
            exact o2
          have f5 : x_fL 22 F4 G4 F5 G4 := by
            rw [hF5]
            exact x_fL_t (x_fL_up (Or.inr (by decide))) (x_fL_up (Or.inr (by decide)))
          have b9 : v_BA (v_set S.1 9 (S.1 0 0 0) 0 x.1) := v_BA_set hB (by decide) (by decide) (by decide) (by decide) (by decide) (by decide) k3.2.1 k3.2.2
          have e0 : v_set S.1 9 (S.1 0 0 0) 0 x.1 0 0 0 = S.1 0 0 0 := v_set_c (by decide)
          have hB5 : v_BA (v_set (v_set S.1 9 (S.1 0 0 0) 0 x.1) 0 0 0 (S.1 0 0 0 + 1)) := by
            have w := v_BA_more b9 (s := 0) (by decide) (by rw [e0]; show S.1 0 0 0 < 4; omega) (fun c hc => by
              rcases hc with ⟨-, rfl⟩ | ⟨h1, -⟩ | ⟨h1, -⟩
              · rw [e0, v_set_s]
                exact k3.2
              · omega
              · omega)
            rw [e0] at w
            exact w
          have c5 : v_CA F5 G4 22 (v_set (v_set S.1 9 (S.1 0 0 0) 0 x.1) 0 0 0 (S.1 0 0 0 + 1)) := by
            have w := v_CA_set c4 (vp := v_set S.1 0 0 0 (S.1 0 0 0 + 1)) (fun c i j h => v_al_up (s := 0) (by decide) h) (by rw [v_set_s]; omega) (by rw [v_set_c (by decide)]; omega) (c := 9) (i := S.1 0 0 0) (j := 0) (x := x.1) (by
              show S.1 0 0 0 < v_set S.1 0 0 0 (S.1 0 0 0 + 1) 0 0 0 ∧ 0 = 0
              rw [v_set_s]
              omega) (by decide)
            have w2 := v_CA_more w (s := 0) (by decide) (by rw [e0]; exact b0) (by rw [v_set_c (by decide)]; exact b1) (fun c hc => by
              rcases hc with ⟨-, rfl⟩ | ⟨h1, -⟩ | ⟨h1, -⟩
              · rw [e0, v_set_s]
                exact x_up_s _ _ _ _
              · omega
              · omega)
            rw [e0] at w2
            rw [hF5]
            exact w2
          have g4 : G4 24 = va_up (G1 24) (S.1 0 0 0) (y_lt a m (y_nxt a m q)) := by rw [o1.2 24 (by decide), p1.2 24 (by decide)]; exact g2
          have st : x_LS 22 a m (v_set (v_set S.1 9 (S.1 0 0 0) 0 x.1) 0 0 0 (S.1 0 0 0 + 1), y.1, S.2.2) x.2 F5 G4 := by
            refine ⟨hR5, c5, ?_, fun i hi => ?_⟩
            · rw [g4, k1.2]
              refine y_NR_up s1.2.2.1 (fun i hi => ?_) (fun i hi => Or.inl ?_) (fun i hi => Or.inl ?_)
              · have hi : i < v_set (v_set S.1 9 (S.1 0 0 0) 0 x.1) 0 0 0 (S.1 0 0 0 + 1) 0 0 0 := hi
                rw [v_set_s] at hi
                omega
              · have hi : i < v_set (v_set S.1 9 (S.1 0 0 0) 0 x.1) 0 0 0 (S.1 0 0 0 + 1) 1 0 0 := hi
                rw [v_set_c (by decide), v_set_c (by decide)] at hi
                exact hi
              · have hi : i < v_set (v_set S.1 9 (S.1 0 0 0) 0 x.1) 0 0 0 (S.1 0 0 0 + 1) 2 0 0 := hi
                rw [v_set_c (by decide), v_set_c (by decide)] at hi
                exact hi
            · have e : F5 601 = f 601 := by
                rw [hF5]
                exact (x_up_k (by decide)).trans ((x_up_k (by decide)).trans ((o1.1 601 (by decide)).trans ((p1.1 601 (by decide)).trans t2)))
              rw [e]
              exact hS.2.2.2 i hi
          have hF5' : F5 = x_up (x_up F4 25 (nI (S.1 0 0 0)).toNatClampNeg (F4 10 9)) 22 0 (F4 22 0 + Int32.ofInt 1) := by rw [hF5, nI_clamp (by omega), o3, hK4, nI_1o]
          show ∃ P, x_Ct 86 (d + 2) [.ref 10, .int 59] (x_up (x_up F4 25 (nI (S.1 0 0 0)).toNatClampNeg (F4 10 9)) 22 0 (F4 22 0 + Int32.ofInt 1), G4, x_HR 12 t, dm, n) P ∧ _
          rw [← hF5']
          refine Exists.intro _ (And.intro (c_takeSign (c := 59) hT hR5 (by decide) (by decide)) (And.intro (And.intro (Nat.zero_le _) (Nat.zero_le _)) (fun zq h' hpo => ?_)))
          cases e4 : y_sgn a m 59 x.2 with
          | inl e =>
            obtain ⟨rfl, F6, G6, rfl, i1, i2⟩ := x_PT_l e4 hpo
            refine And.intro ?_ ⟨Or.inl rfl, Nat.le_refl _, Nat.le_refl _⟩
            rw [hPo]
            refine x_PLd_l ((eY _ e1).trans ?_) (x_fL_t n2 (x_fL_t (x_fL_t (x_fL_10 p1) (x_fL_10 o1)) (x_fL_t f5 (x_fL_10 i1)))) i2 (v_CA_10 hL i1 c5) hB5
            show y_bd (y_wrd a m (nI 7) y.2) _ = _
            rw [e2]
            show y_bd (y_nbr a m 1 500 q3) _ = _
            rw [e3]
            show y_bd (y_sgn a m 59 x.2) _ = _
            rw [e4]
            rfl
          | inr q5 =>
            obtain ⟨rfl, F6, G6, rfl, i1, i2⟩ := x_PT_r e4 hpo
            refine And.intro ?_ ⟨Or.inr rfl, Nat.le_refl _, Nat.le_refl _⟩
            rw [hPo]
            refine x_PLd_r (w := ((v_set (v_set S.1 9 (S.1 0 0 0) 0 x.1) 0 0 0 (S.1 0 0 0 + 1), y.1, S.2.2), q5)) ((eY _ e1).trans ?_) (x_fL_t n2 (x_fL_t (x_fL_t (x_fL_10 p1) (x_fL_10 o1)) (x_fL_t f5 (x_fL_10 i1)))) (x_LS_10 hL st i1 i2.1)
            show y_bd (y_wrd a m (nI 7) y.2) _ = _
            rw [e2]
            show y_bd (y_nbr a m 1 500 q3) _ = _
            rw [e3]
            show y_bd (y_sgn a m 59 x.2) _ = _
            rw [e4]
            rfl
theorem c_readChoice_12 {w hi df : Nat} {c : Int32} (hc : c = y_tr (nI w)) (hw : w < 25) (hhi : hi < 2 ^ 31) (hT : y_TP a m) (hR : x_RC a m q f g) : x_Ct 41 (d + 3) [.ref 600, .int c, .int (nI hi), .int (nI df)] (f, g, x_HR 22 t, dm, n) (x_PT f g (x_HR 22 t) dm n (y_chc a m (nI w) hi df q) (fun z F G => x_RC a m z.2 F G ∧ F 10 9 = nI z.1)) := by
  have no : ¬ nI w = -1 := by
    have : ∀ j, j < 25 → ¬ nI j = -1 := by decide +kernel
    exact this w hw
  obtain ⟨Po, hPo⟩ : ∃ Po : Option Value → xH → Prop, Po = x_PT f g (x_HR 22 t) dm n (y_chc a m (nI w) hi df q) (fun z F G => x_RC a m z.2 F G ∧ F 10 9 = nI z.1) := ⟨_, rfl⟩
  rw [← hPo]
  refine x_Ct_w (by decide) (Nat.le_of_ble_eq_true rfl) ok41 [] 6 ?_
  refine And.intro (fun k => ?_) (fun k => ?_)
  · have k : f 10 7 = c := k
    rw [hR.2.2.2.2.1, hc, y_tr_eq a m q hw] at k
    have h1 := y_wm_sa (a := a) (m := m) (q := q) (by rw [k]; exact no)
    refine Exists.intro _ (And.intro (c_adv hT hR (by rw [h1]; decide) (by rw [h1]; decide)) (And.intro (And.intro (Nat.zero_le _) (Nat.zero_le _)) (fun zq h' hpo => ?_)))
    obtain ⟨rfl, F1, G1, rfl, u1, -, u3⟩ := hpo
    refine Exists.intro _ (And.intro (c_takeNumber (lo := 0) (hi := hi) (by decide) hhi hT u3) (And.intro (And.intro (Nat.zero_le _) (Nat.zero_le _)) (fun zq h' hpo => ?_)))
    have eX : y_chc a m (nI w) hi df q = y_nbr a m 0 hi (y_nxt a m q) := if_pos k
    cases e1 : y_nbr a m 0 hi (y_nxt a m q) with
    | inl e =>
      obtain ⟨rfl, F2, G2, rfl, w1, w2⟩ := x_PT_l e1 hpo
      refine And.intro ?_ ⟨Or.inl rfl, Nat.le_refl _, Nat.le_refl _⟩
      rw [hPo]
      exact x_PT_L (eX.trans e1) (x_f10_t u1 w1) w2
    | inr x =>
      obtain ⟨rfl, F2, G2, rfl, w1, w2⟩ := x_PT_r e1 hpo
      refine And.intro ?_ ⟨Or.inr rfl, Nat.le_refl _, Nat.le_refl _⟩
      rw [hPo]
      exact x_PT_R (eX.trans e1) (x_f10_t u1 w1) w2
  · have k : ¬ f 10 7 = c := k
    rw [hR.2.2.2.2.1, hc, y_tr_eq a m q hw] at k
    refine And.intro ?_ ⟨Or.inr rfl, Nat.le_refl _, Nat.le_refl _⟩
    rw [hPo]
    exact x_PT_R (w := (df, q)) (if_neg k) ⟨fun c hc => x_up_k hc, fun _ _ => rfl⟩ ⟨⟨(x_up_k (by decide)).trans hR.1, hR.2⟩, x_up_s _ _ _ _⟩
theorem c_readKind_12 (hT : y_TP a m) (hB : v_BA S.1) (hS : x_LS 12 a m S q f g) (hw : y_sa a m q = 1) : x_Ct 38 (d + 3) [.ref 600] (f, g, x_HR 22 t, dm, n) (x_PLd 12 a m f g (x_HR 22 t) dm n (y_kind a m S q)) := by
  obtain ⟨Po, hPo⟩ : ∃ Po : Option Value → xH → Prop, Po = x_PLd 12 a m f g (x_HR 22 t) dm n (y_kind a m S q) := ⟨_, rfl⟩
  rw [← hPo]
  have hL : (12 : Nat) = 12 ∨ (12 : Nat) = 22 := by decide
  have h0 : f 12 0 = nI (S.1 0 0 0) := hS.2.1.1 0 0 0 ⟨rfl, rfl⟩
  have h1 : f 12 1 = nI (S.1 1 0 0) := hS.2.1.1 1 0 0 ⟨rfl, rfl⟩
  have h2 : f 12 2 = nI (S.1 2 0 0) := hS.2.1.1 2 0 0 ⟨rfl, rfl⟩
  have b0 := v_BA_K hB
  have b1 := v_BA_G hB
  have b2 := v_BA_P hB
  have hn := y_nxt_gt (a := a) (m := m) (q := q) (by rw [hw]; decide)
  refine x_Ct_w (by decide) (Nat.le_of_ble_eq_true rfl) ok38 [8] 6 ?_
  show x_J 38 (d + 3) Po 8 [some (.ref 600), some (.int (f 12 0))] [] (f, g, x_HR 22 t, dm, n) 0 0
  rw [h0]
  have no : ∀ F G, Po (some (.int 0)) (F, G, x_HR 22 t, dm, n) → x_J 38 (d + 3) Po 72 [some (.ref 600), some (.int (nI (S.1 0 0 0)))] [] (F, G, x_HR 22 t, dm, n) 0 0 := by
    intro F G h
    refine x_wp_ok ok38 [] 6 ?_
    refine And.intro ?_ ⟨Or.inl rfl, Nat.le_refl _, Nat.le_refl _⟩
    exact h
  refine x_wp_ok ok38 [72] 6 ?_
  by_cases c : S.1 0 0 0 = 4
  · refine And.intro (fun k => absurd (show nI (S.1 0 0 0) < nI 4 from k) (nI_nlt (by omega) (by omega))) (fun _ => ?_)
    refine Exists.intro _ (And.intro (c_fail (k := 6) hS.1) (And.intro (And.intro (Nat.zero_le _) (Nat.zero_le _)) (fun zq h' hpo => ?_)))
    obtain ⟨rfl, F1, rfl, u1, u2⟩ := hpo
    refine And.intro ?_ ⟨Or.inl rfl, Nat.le_refl _, Nat.le_refl _⟩
    rw [hPo]
    exact x_PLd_l (if_pos c) (x_fL_10 u1) u2 (v_CA_10 hL u1 hS.2.1) hB
  · refine And.intro (fun _ => ?_) (fun k => absurd (show nI (S.1 0 0 0) < nI 4 from nI_lt (by omega) (by decide)) k)
    have eY : ∀ Y, y_new a m S.2.1 (S.1 0 0 0) (S.1 1 0 0) (S.1 2 0 0) (S.1 0 0 0) (y_nxt a m q) = Y → y_kind a m S q = y_bd Y (fun z => y_bd (y_wrd a m 7 z.2) (fun q2 => y_bd (y_nbr a m 1 500 q2) (fun x => y_bd (y_sgn a m 59 x.2) (fun q3 => .inr ((v_set (v_set S.1 9 (S.1 0 0 0) 0 x.1) 0 0 0 (S.1 0 0 0 + 1), z.1, S.2.2), q3))))) := by
      intro Y hY
      unfold y_kind
      rw [if_neg c, hY]
    refine Exists.intro _ (And.intro (c_adv hT hS.1 (by rw [hw]; decide) (by rw [hw]; decide)) (And.intro (And.intro (Nat.zero_le _) (Nat.zero_le _)) (fun zq h' hpo => ?_)))
    obtain ⟨rfl, F1, G1, rfl, u1, -, u3⟩ := hpo
    have s1 := x_LS_10 hL hS u1 u3
    show ∃ P, x_Ct 91 (d + 2) [.ref 10, .ref 12, .int (nI 0 + nI (S.1 0 0 0))] (F1, G1, x_HR 22 t, dm, n) P ∧ _
    rw [nI_add, Nat.zero_add]
    refine Exists.intro _ (And.intro (c_takeNewName_12 (v := S.1) (N := S.2.1) hT hn.2 u3 (by omega) (by rw [u1.1 12 (by decide)]; exact h0) (by rw [u1.1 12 (by decide)]; exact h1) (by rw [u1.1 12 (by decide)]; exact h2) b0 b1 b2 s1.2.2.1) (And.intro (And.intro (Nat.zero_le _) (Nat.zero_le _)) (fun zq h' hpo => ?_)))
    cases e1 : y_new a m S.2.1 (S.1 0 0 0) (S.1 1 0 0) (S.1 2 0 0) (S.1 0 0 0) (y_nxt a m q) with
    | inl e =>
      obtain ⟨rfl, F2, G2, rfl, w1, w2⟩ := x_PNn_l e1 hpo
      refine And.intro (fun _ => ?_) (fun c => absurd rfl c)
      refine no F2 G2 ?_
      rw [hPo]
      exact x_PLd_l (eY _ e1) (x_fL_t (x_fL_10 u1) (x_fL_10 w1)) w2 (v_CA_10 hL w1 s1.2.1) hB
    | inr y =>
      obtain ⟨rfl, F2, G2, rfl, w1, w2⟩ := x_PNn_r e1 hpo
      have k1 := y_new_gt e1
      have n2 : x_fL 12 f g F2 G2 := x_fL_t (x_fL_10 u1) (x_fL_t (x_fL_gp (by decide)) (x_fL_10 w1))
      have c2 : v_CA F2 G2 12 S.1 := v_CA_10 hL w1 (v_CA_n s1.2.1)
      have g2 : G2 14 = va_up (G1 14) (S.1 0 0 0) (y_lt a m (y_nxt a m q)) := by rw [w1.2 14 (by decide)]; exact x_up_c
      have t2 : F2 601 = f 601 := (w1.1 601 (by decide)).trans (u1.1 601 (by decide))
      refine And.intro (fun c => absurd (show (1 : Int32) = 0 from c) (by decide)) (fun _ => ?_)
      refine Exists.intro _ (And.intro (c_takeWord (w := 7) (c := 4) rfl (by decide) hT w2) (And.intro (And.intro (Nat.zero_le _) (Nat.zero_le _)) (fun zq h' hpo => ?_)))
      cases e2 : y_wrd a m (nI 7) y.2 with
      | inl e =>
        obtain ⟨rfl, F3, G3, rfl, p1, p2⟩ := x_PT_l e2 hpo
        refine And.intro (fun _ => ?_) (fun c => absurd rfl c)
        refine no F3 G3 ?_
        rw [hPo]
        refine x_PLd_l ((eY _ e1).trans ?_) (x_fL_t n2 (x_fL_10 p1)) p2 (v_CA_10 hL p1 c2) hB
        show y_bd (y_wrd a m (nI 7) y.2) _ = _
        rw [e2]
        rfl
      | inr q3 =>
        obtain ⟨rfl, F3, G3, rfl, p1, p2⟩ := x_PT_r e2 hpo
        refine And.intro (fun c => absurd (show (1 : Int32) = 0 from c) (by decide)) (fun _ => ?_)
        refine Exists.intro _ (And.intro (c_takeNumber (lo := 1) (hi := 500) (by decide) (by decide) hT p2.1) (And.intro (And.intro (Nat.zero_le _) (Nat.zero_le _)) (fun zq h' hpo => ?_)))
        cases e3 : y_nbr a m 1 500 q3 with
        | inl e =>
          obtain ⟨rfl, F4, G4, rfl, o1, o2⟩ := x_PT_l e3 hpo
          refine And.intro (fun c => absurd rfl c) (fun _ => ?_)
          refine no F4 G4 ?_
          rw [hPo]
          refine x_PLd_l ((eY _ e1).trans ?_) (x_fL_t n2 (x_fL_t (x_fL_10 p1) (x_fL_10 o1))) o2 (v_CA_10 hL o1 (v_CA_10 hL p1 c2)) hB
          show y_bd (y_wrd a m (nI 7) y.2) _ = _
          rw [e2]
          show y_bd (y_nbr a m 1 500 q3) _ = _
          rw [e3]
          rfl
        | inr x =>
          obtain ⟨rfl, F4, G4, rfl, o1, o2, o3⟩ := x_PT_r e3 hpo
          have k3 := y_nbr_gt e3
          have c4 := v_CA_10 hL o1 (v_CA_10 hL p1 c2)
          have hK4 : F4 12 0 = nI (S.1 0 0 0) := c4.1 0 0 0 ⟨rfl, rfl⟩
          refine And.intro (fun _ => ?_) (fun c => absurd (show (1 : Int32) = 0 from c) (by decide))
          refine And.intro (x_ix_nI (by omega) (by omega)) ?_
          obtain ⟨F5, hF5⟩ : ∃ F5, F5 = x_up (x_up F4 15 (S.1 0 0 0) (nI x.1)) 12 0 (nI (S.1 0 0 0 + 1)) := ⟨_, rfl⟩
          have hR5 : x_RC a m x.2 F5 G4 := by
            rw [hF5]
            exact o2
          have f5 : x_fL 12 F4 G4 F5 G4 := by
            rw [hF5]
            exact x_fL_t (x_fL_up (Or.inr (by decide))) (x_fL_up (Or.inr (by decide)))
          have b9 : v_BA (v_set S.1 9 (S.1 0 0 0) 0 x.1) := v_BA_set hB (by decide) (by decide) (by decide) (by decide) (by decide) (by decide) k3.2.1 k3.2.2
          have e0 : v_set S.1 9 (S.1 0 0 0) 0 x.1 0 0 0 = S.1 0 0 0 := v_set_c (by decide)
          have hB5 : v_BA (v_set (v_set S.1 9 (S.1 0 0 0) 0 x.1) 0 0 0 (S.1 0 0 0 + 1)) := by
            have w := v_BA_more b9 (s := 0) (by decide) (by rw [e0]; show S.1 0 0 0 < 4; omega) (fun c hc => by
              rcases hc with ⟨-, rfl⟩ | ⟨h1, -⟩ | ⟨h1, -⟩
              · rw [e0, v_set_s]
                exact k3.2
              · omega
              · omega)
            rw [e0] at w
            exact w
          have c5 : v_CA F5 G4 12 (v_set (v_set S.1 9 (S.1 0 0 0) 0 x.1) 0 0 0 (S.1 0 0 0 + 1)) := by
            have w := v_CA_set c4 (vp := v_set S.1 0 0 0 (S.1 0 0 0 + 1)) (fun c i j h => v_al_up (s := 0) (by decide) h) (by rw [v_set_s]; omega) (by rw [v_set_c (by decide)]; omega) (c := 9) (i := S.1 0 0 0) (j := 0) (x := x.1) (by
              show S.1 0 0 0 < v_set S.1 0 0 0 (S.1 0 0 0 + 1) 0 0 0 ∧ 0 = 0
              rw [v_set_s]
              omega) (by decide)
            have w2 := v_CA_more w (s := 0) (by decide) (by rw [e0]; exact b0) (by rw [v_set_c (by decide)]; exact b1) (fun c hc => by
              rcases hc with ⟨-, rfl⟩ | ⟨h1, -⟩ | ⟨h1, -⟩
              · rw [e0, v_set_s]
                exact x_up_s _ _ _ _
              · omega
              · omega)
            rw [e0] at w2
            rw [hF5]
            exact w2
          have g4 : G4 14 = va_up (G1 14) (S.1 0 0 0) (y_lt a m (y_nxt a m q)) := by rw [o1.2 14 (by decide), p1.2 14 (by decide)]; exact g2
          have st : x_LS 12 a m (v_set (v_set S.1 9 (S.1 0 0 0) 0 x.1) 0 0 0 (S.1 0 0 0 + 1), y.1, S.2.2) x.2 F5 G4 := by
            refine ⟨hR5, c5, ?_, fun i hi => ?_⟩
            · rw [g4, k1.2]
              refine y_NR_up s1.2.2.1 (fun i hi => ?_) (fun i hi => Or.inl ?_) (fun i hi => Or.inl ?_)
              · have hi : i < v_set (v_set S.1 9 (S.1 0 0 0) 0 x.1) 0 0 0 (S.1 0 0 0 + 1) 0 0 0 := hi
                rw [v_set_s] at hi
                omega
              · have hi : i < v_set (v_set S.1 9 (S.1 0 0 0) 0 x.1) 0 0 0 (S.1 0 0 0 + 1) 1 0 0 := hi
                rw [v_set_c (by decide), v_set_c (by decide)] at hi
                exact hi
              · have hi : i < v_set (v_set S.1 9 (S.1 0 0 0) 0 x.1) 0 0 0 (S.1 0 0 0 + 1) 2 0 0 := hi
                rw [v_set_c (by decide), v_set_c (by decide)] at hi
                exact hi
            · have e : F5 601 = f 601 := by
                rw [hF5]
                exact (x_up_k (by decide)).trans ((x_up_k (by decide)).trans ((o1.1 601 (by decide)).trans ((p1.1 601 (by decide)).trans t2)))
              rw [e]
              exact hS.2.2.2 i hi
          have hF5' : F5 = x_up (x_up F4 15 (nI (S.1 0 0 0)).toNatClampNeg (F4 10 9)) 12 0 (F4 12 0 + Int32.ofInt 1) := by rw [hF5, nI_clamp (by omega), o3, hK4, nI_1o]
          show ∃ P, x_Ct 86 (d + 2) [.ref 10, .int 59] (x_up (x_up F4 15 (nI (S.1 0 0 0)).toNatClampNeg (F4 10 9)) 12 0 (F4 12 0 + Int32.ofInt 1), G4, x_HR 22 t, dm, n) P ∧ _
          rw [← hF5']
          refine Exists.intro _ (And.intro (c_takeSign (c := 59) hT hR5 (by decide) (by decide)) (And.intro (And.intro (Nat.zero_le _) (Nat.zero_le _)) (fun zq h' hpo => ?_)))
          cases e4 : y_sgn a m 59 x.2 with
          | inl e =>
            obtain ⟨rfl, F6, G6, rfl, i1, i2⟩ := x_PT_l e4 hpo
            refine And.intro ?_ ⟨Or.inl rfl, Nat.le_refl _, Nat.le_refl _⟩
            rw [hPo]
            refine x_PLd_l ((eY _ e1).trans ?_) (x_fL_t n2 (x_fL_t (x_fL_t (x_fL_10 p1) (x_fL_10 o1)) (x_fL_t f5 (x_fL_10 i1)))) i2 (v_CA_10 hL i1 c5) hB5
            show y_bd (y_wrd a m (nI 7) y.2) _ = _
            rw [e2]
            show y_bd (y_nbr a m 1 500 q3) _ = _
            rw [e3]
            show y_bd (y_sgn a m 59 x.2) _ = _
            rw [e4]
            rfl
          | inr q5 =>
            obtain ⟨rfl, F6, G6, rfl, i1, i2⟩ := x_PT_r e4 hpo
            refine And.intro ?_ ⟨Or.inr rfl, Nat.le_refl _, Nat.le_refl _⟩
            rw [hPo]
            refine x_PLd_r (w := ((v_set (v_set S.1 9 (S.1 0 0 0) 0 x.1) 0 0 0 (S.1 0 0 0 + 1), y.1, S.2.2), q5)) ((eY _ e1).trans ?_) (x_fL_t n2 (x_fL_t (x_fL_t (x_fL_10 p1) (x_fL_10 o1)) (x_fL_t f5 (x_fL_10 i1)))) (x_LS_10 hL st i1 i2.1)
            show y_bd (y_wrd a m (nI 7) y.2) _ = _
            rw [e2]
            show y_bd (y_nbr a m 1 500 q3) _ = _
            rw [e3]
            show y_bd (y_sgn a m 59 x.2) _ = _
            rw [e4]
            rfl
end C80
