/-! the class reads a whole LAND -/
def y_lv0 (v : xV) : xV := v_set v 7 0 0 (1 + v_out v / v 3 0 0)
theorem y_lv0_B {v : xV} (hB : v_B v) : v_B (y_lv0 v) := by
  have h1 := v_out_le hB
  have h2 : 10 ≤ v 3 0 0 := (hB.1 3 0 0 ⟨rfl, rfl⟩).1
  have h3 : v_out v / v 3 0 0 ≤ v_out v / 10 := Nat.div_le_div_left h2 (by decide)
  refine v_B_set hB (c := 7) (i := 0) (j := 0) ⟨rfl, rfl⟩ (by decide) (by decide) (by decide) (Nat.le_add_right 1 _) (show _ ≤ 21000000 by omega)
def x_PLe (L : Nat) (f : Nat → Nat → Int32) (g : Nat → Nat → Int64) (ρ : Nat → Nat → Option Nat) (dm : List Nat) (n : Nat) (X : xF xL) (z : Option Value) (h' : xH) : Prop := match X with
  | .inl e => z = some (.int 0) ∧ ∃ F G, h' = (F, G, ρ, dm, n) ∧ x_fL L f g F G ∧ x_FL F e
  | .inr S => z = some (.int 1) ∧ ∃ F G, h' = (F, G, ρ, dm, n) ∧ x_fL L f g F G ∧ v_C F G L (y_lv0 S.1) ∧ v_B (y_lv0 S.1) ∧ y_NR (G (L + 2)) S.1 S.2.1
theorem y_parts_S {a : Nat → Int32} {m j q : Nat} {S : xL} (h : y_sa a m q ≠ 3) : y_parts a m (j + 1) S q = y_bd (y_part a m S q) (fun z => y_parts a m j z.1 z.2) := if_neg h
theorem y_parts_3 {a : Nat → Int32} {m j q : Nat} {S : xL} (h : y_sa a m q = 3) : y_parts a m j S q = .inr S := by
  cases j with
  | zero => rfl
  | succ j => exact if_pos h
section C82
variable {f : Nat → Nat → Int32} {g : Nat → Nat → Int64} {r t : Nat} {dm : List Nat} {n d L : Nat} {v : xV} {a : Nat → Int32} {m q : Nat} {N : Nat → Int64} {S : xL} {ρ : Nat → Nat → Option Nat} {X : xF (xL × Nat)} {z : Option Value} {h' : xH} {e : Nat × Nat} {w : xL × Nat} {F : Nat → Nat → Int32} {G : Nat → Nat → Int64}
theorem x_PLd_z (h : x_PLd L a m f g ρ dm n X z h') : ∃ b : Int32, z = some (.int b) := by
  cases X with
  | inl e => exact ⟨0, h.1⟩
  | inr w => exact ⟨1, h.1⟩
theorem y_tr_out : ∀ i, i < 25 → 7 ≤ i → (y_tr (nI i)).toInt ≠ 0 ∧ (y_tr (nI i)).toInt ≠ 1 ∧ (y_tr (nI i)).toInt ≠ 2 ∧ (y_tr (nI i)).toInt ≠ 3 ∧ (y_tr (nI i)).toInt ≠ 5 ∧ (y_tr (nI i)).toInt ≠ 8 ∧ (y_tr (nI i)).toInt ≠ 10 := by decide +kernel
theorem c_isTakenL_22 {j0 : Nat} (hT : y_TP a m) (hB : v_BA S.1) (hS : x_LS 22 a m S q f g) (hq : q ≤ m) (hj : m - q ≤ j0) : x_Ct 36 (d + 5) [.ref 600] (f, g, x_HR 12 t, dm, n) (x_PLe 22 f g (x_HR 12 t) dm n (y_parts a m j0 S q)) := by
  obtain ⟨X0, hX0⟩ : ∃ X0, X0 = y_parts a m j0 S q := ⟨_, rfl⟩
  rw [← hX0]
  obtain ⟨Po, hPo⟩ : ∃ Po : Option Value → xH → Prop, Po = x_PLe 22 f g (x_HR 12 t) dm n X0 := ⟨_, rfl⟩
  rw [← hPo]
  have hL : (22 : Nat) = 12 ∨ (22 : Nat) = 22 := by decide
  have tail : ∀ F G v' (b : Int32) x, v_C F G 22 v' → v_B v' → (b = 0 ∨ b = 1) → Po (some (.int b)) (x_up F 22 4 (nI (1 + v_out v' / v' 3 0 0)), G, x_HR 12 t, dm, n) → x_J 36 (d + 5) Po 166 [some (.ref 600), some (.int b), some (.int x)] [] (F, G, x_HR 12 t, dm, n) 0 0 := by
    intro F G v' b x hC hB' hb hp
    have ho := v_out_le hB'
    refine x_wp_ok ok36 [] 6 ?_
    refine Exists.intro _ (And.intro (c_outNow_22 hC hB') (And.intro (And.intro (Nat.zero_le _) (Nat.zero_le _)) (fun q h' hpo => ?_)))
    obtain ⟨rfl, rfl⟩ := hpo
    refine Exists.intro _ (And.intro (c_levelAfter_22 (m := 0) (o := v_out v') hC hB' (by decide) (by omega)) (And.intro (And.intro (Nat.zero_le _) (Nat.zero_le _)) (fun q h' hpo => ?_)))
    obtain ⟨rfl, rfl⟩ := hpo
    rw [Nat.zero_mul, Nat.add_zero]
    exact And.intro hp ⟨hb, Nat.le_refl _, Nat.le_refl _⟩
  have tl1 : ∀ F G (S : xL) x, X0 = .inr S → v_BA S.1 → v_CA F G 22 S.1 → y_NR (G 24) S.1 S.2.1 → x_fL 22 f g F G → x_J 36 (d + 5) Po 166 [some (.ref 600), some (.int 1), some (.int x)] [] (F, G, x_HR 12 t, dm, n) 0 0 := by
    intro F G S x hX hB' hC hN hf
    refine tail F G S.1 1 x (v_CA_C hB' hC) (v_BA_B hB') (Or.inr rfl) ?_
    rw [hPo, hX]
    refine ⟨rfl, _, G, rfl, x_fL_t hf (x_fL_up (Or.inr (by decide))), ?_, y_lv0_B (v_BA_B hB'), hN⟩
    exact v_C_set (v_CA_C hB' hC) (v_BA_K hB') (v_BA_G hB') (c := 7) (i := 0) (j := 0) ⟨rfl, rfl⟩ (by decide)
  have tl0 : ∀ F G (e : Nat × Nat) v' x, X0 = .inl e → v_C F G 22 v' → v_B v' → x_FL F e → x_fL 22 f g F G → x_J 36 (d + 5) Po 166 [some (.ref 600), some (.int 0), some (.int x)] [] (F, G, x_HR 12 t, dm, n) 0 0 := by
    intro F G e v' x hX hC hB' he hf
    refine tail F G v' 0 x hC hB' (Or.inl rfl) ?_
    rw [hPo, hX]
    exact ⟨rfl, _, G, rfl, x_fL_t hf (x_fL_up (Or.inr (by decide))), he⟩
  have loop : ∀ j (S : xL) q i F G, v_BA S.1 → x_LS 22 a m S q F G → q ≤ m → m - q ≤ j → i ≤ q → x_fL 22 f g F G → y_parts a m j S q = X0 → x_J 36 (d + 5) Po 4 [some (.ref 600), some (.int 1), some (.int (nI i))] [] (F, G, x_HR 12 t, dm, n) 0 0 := by
    intro j
    induction j with
    | zero =>
      intro S q i F G hB hS hq hj hi hf hX
      have h3 : y_sa a m q = 3 := if_neg (by omega)
      refine x_wp_ok ok36 [4, 166] 6 ?_
      rw [y_parts_3 h3] at hX
      refine And.intro (fun _ => tl1 F G S _ hX.symm hB hS.2.1 hS.2.2.1 hf) (fun _ => ?_)
      refine And.intro (fun c => absurd (show (1 : Int32) = 0 from c) (by decide)) (fun _ => ?_)
      refine And.intro (fun _ => tl1 F G S _ hX.symm hB hS.2.1 hS.2.2.1 hf) (fun c => absurd (show F 10 4 = 3 by rw [hS.1.2.2.2.1, y_tk_3]; exact h3) c)
    | succ j ih =>
      intro S q i F G hB hS hq hj hi hf hX
      by_cases h3 : y_sa a m q = 3
      · refine x_wp_ok ok36 [4, 166] 6 ?_
        rw [y_parts_3 h3] at hX
        refine And.intro (fun _ => tl1 F G S _ hX.symm hB hS.2.1 hS.2.2.1 hf) (fun _ => ?_)
        refine And.intro (fun c => absurd (show (1 : Int32) = 0 from c) (by decide)) (fun _ => ?_)
        refine And.intro (fun _ => tl1 F G S _ hX.symm hB hS.2.1 hS.2.2.1 hf) (fun c => absurd (show F 10 4 = 3 by rw [hS.1.2.2.2.1, y_tk_3]; exact h3) c)
      · rw [y_parts_S h3] at hX
        have hlt := y_sa_lt h3
        have hm9 := hT.1
        have jn : ∀ (b : Int32) h', x_PLd 22 a m F G (x_HR 12 t) dm n (y_part a m S q) (some (.int b)) h' → x_J 36 (d + 5) Po 160 [some (.ref 600), some (.int b), some (.int (nI i))] [] h' 0 0 := by
          intro b h' hp
          cases hY : y_part a m S q with
          | inl e =>
            rw [hY] at hp hX
            obtain ⟨hb, F2, G2, rfl, w1, w2, v', w3, w4⟩ := hp
            cases hb
            refine x_wp_ok ok36 [166] 6 ?_
            refine And.intro (fun _ => tl0 F2 G2 e v' _ hX.symm w3 w4 w2 (x_fL_t hf w1)) (fun _ => ?_)
            refine And.intro (fun _ => tl0 F2 G2 e v' _ hX.symm w3 w4 w2 (x_fL_t hf w1)) (fun c => absurd rfl c)
          | inr w =>
            have k1 := y_part_ok hB hY
            rw [hY] at hp hX
            obtain ⟨hb, F2, G2, rfl, w1, w2⟩ := hp
            cases hb
            have e0 := ih w.1 w.2 (i + 1) F2 G2 k1.1 w2 k1.2.2 (by omega) (by omega) (x_fL_t hf w1) hX
            rw [← nI_1o] at e0
            refine x_wp_ok ok36 [4] 6 ?_
            exact e0
        have bad : y_part a m S q = .inl (y_fl a m q 2) → x_J 36 (d + 5) Po 151 [some (.ref 600), some (.int 1), some (.int (nI i))] [] (F, G, x_HR 12 t, dm, n) 0 0 := by
          intro hY
          refine x_wp_ok ok36 [160] 6 ?_
          refine Exists.intro _ (And.intro (c_fail (k := 2) hS.1) (And.intro (And.intro (Nat.zero_le _) (Nat.zero_le _)) (fun zq h' hpo => ?_)))
          obtain ⟨rfl, F1, rfl, u1, u2⟩ := hpo
          refine jn 0 _ ?_
          rw [hY]
          exact ⟨rfl, F1, G, rfl, x_fL_10 u1, u2, S.1, v_CA_C hB (v_CA_10 hL u1 hS.2.1), v_BA_B hB⟩
        refine x_wp_ok ok36 [4, 151, 160, 166] 6 ?_
        refine And.intro (fun c => absurd (show nI 900 ≤ nI i from c) (nI_ge (by omega) (by decide))) (fun _ => ?_)
        refine And.intro (fun c => absurd (show (1 : Int32) = 0 from c) (by decide)) (fun _ => ?_)
        refine And.intro (fun c => absurd (show F 10 4 = 3 from c) (by rw [hS.1.2.2.2.1, y_tk_3]; exact h3)) (fun _ => ?_)
        have hx : F 10 7 = y_tr (y_wm a m q) := hS.1.2.2.2.2.1
        have one : ∀ k, k < 25 → y_wm a m q = nI k → y_sa a m q = 1 := by
          intro k hk h
          have no : ∀ j, j < 25 → ¬ nI j = -1 := by decide +kernel
          exact y_wm_sa (by rw [h]; exact no k hk)
        by_cases c0 : y_wm a m q = 0
        · have hY : y_part a m S q = y_rule a m 0 S q := if_pos c0
          have ww : (F 10 7).toInt = 0 := by rw [hx, c0]; rfl
          refine And.intro (And.intro (fun _ => ?_) (And.intro (fun c => absurd (ww.symm.trans c) (by decide)) (And.intro (fun c => absurd (ww.symm.trans c) (by decide)) (And.intro (fun c => absurd (ww.symm.trans c) (by decide)) (And.intro (fun c => absurd (ww.symm.trans c) (by decide)) (And.intro (fun c => absurd (ww.symm.trans c) (by decide)) (And.intro (fun c => absurd (ww.symm.trans c) (by decide)) (And.intro (fun c => absurd (ww.symm.trans c) (by decide)) (And.intro (fun c => absurd (ww.symm.trans c) (by decide)) (And.intro (fun c => absurd (ww.symm.trans c) (by decide)) (And.intro (fun c => absurd (ww.symm.trans c) (by decide)) trivial))))))))))) (fun c => absurd c (by rw [ww]; decide))
          refine Exists.intro _ (And.intro (c_readRule_22_0 hT hB hS (one 0 (by decide) c0)) (And.intro (And.intro (Nat.zero_le _) (Nat.zero_le _)) (fun zq h' hpo => ?_)))
          rw [← hY] at hpo
          obtain ⟨b, rfl⟩ := x_PLd_z hpo
          exact jn b _ hpo
        by_cases c1 : y_wm a m q = 1
        · have hY : y_part a m S q = y_rule a m 1 S q := by unfold y_part; rw [if_neg c0, if_pos c1]
          have ww : (F 10 7).toInt = 1 := by rw [hx, c1]; rfl
          refine And.intro (And.intro (fun c => absurd (ww.symm.trans c) (by decide)) (And.intro (fun _ => ?_) (And.intro (fun c => absurd (ww.symm.trans c) (by decide)) (And.intro (fun c => absurd (ww.symm.trans c) (by decide)) (And.intro (fun c => absurd (ww.symm.trans c) (by decide)) (And.intro (fun c => absurd (ww.symm.trans c) (by decide)) (And.intro (fun c => absurd (ww.symm.trans c) (by decide)) (And.intro (fun c => absurd (ww.symm.trans c) (by decide)) (And.intro (fun c => absurd (ww.symm.trans c) (by decide)) (And.intro (fun c => absurd (ww.symm.trans c) (by decide)) (And.intro (fun c => absurd (ww.symm.trans c) (by decide)) trivial))))))))))) (fun c => absurd c (by rw [ww]; decide))
          refine Exists.intro _ (And.intro (c_readRule_22_1 hT hB hS (one 1 (by decide) c1)) (And.intro (And.intro (Nat.zero_le _) (Nat.zero_le _)) (fun zq h' hpo => ?_)))
          rw [← hY] at hpo
          obtain ⟨b, rfl⟩ := x_PLd_z hpo
          exact jn b _ hpo
        by_cases c2 : y_wm a m q = 2
        · have hY : y_part a m S q = y_rule a m 2 S q := by unfold y_part; rw [if_neg c0, if_neg c1, if_pos c2]
          have ww : (F 10 7).toInt = 2 := by rw [hx, c2]; rfl
          refine And.intro (And.intro (fun c => absurd (ww.symm.trans c) (by decide)) (And.intro (fun c => absurd (ww.symm.trans c) (by decide)) (And.intro (fun _ => ?_) (And.intro (fun c => absurd (ww.symm.trans c) (by decide)) (And.intro (fun c => absurd (ww.symm.trans c) (by decide)) (And.intro (fun c => absurd (ww.symm.trans c) (by decide)) (And.intro (fun c => absurd (ww.symm.trans c) (by decide)) (And.intro (fun c => absurd (ww.symm.trans c) (by decide)) (And.intro (fun c => absurd (ww.symm.trans c) (by decide)) (And.intro (fun c => absurd (ww.symm.trans c) (by decide)) (And.intro (fun c => absurd (ww.symm.trans c) (by decide)) trivial))))))))))) (fun c => absurd c (by rw [ww]; decide))
          refine Exists.intro _ (And.intro (c_readRule_22_2 hT hB hS (one 2 (by decide) c2)) (And.intro (And.intro (Nat.zero_le _) (Nat.zero_le _)) (fun zq h' hpo => ?_)))
          rw [← hY] at hpo
          obtain ⟨b, rfl⟩ := x_PLd_z hpo
          exact jn b _ hpo
        by_cases c3 : y_wm a m q = 3
        · have hY : y_part a m S q = y_kind a m S q := by unfold y_part; rw [if_neg c0, if_neg c1, if_neg c2, if_pos c3]
          have ww : (F 10 7).toInt = 3 := by rw [hx, c3]; rfl
          refine And.intro (And.intro (fun c => absurd (ww.symm.trans c) (by decide)) (And.intro (fun c => absurd (ww.symm.trans c) (by decide)) (And.intro (fun c => absurd (ww.symm.trans c) (by decide)) (And.intro (fun _ => ?_) (And.intro (fun c => absurd (ww.symm.trans c) (by decide)) (And.intro (fun c => absurd (ww.symm.trans c) (by decide)) (And.intro (fun c => absurd (ww.symm.trans c) (by decide)) (And.intro (fun c => absurd (ww.symm.trans c) (by decide)) (And.intro (fun c => absurd (ww.symm.trans c) (by decide)) (And.intro (fun c => absurd (ww.symm.trans c) (by decide)) (And.intro (fun c => absurd (ww.symm.trans c) (by decide)) trivial))))))))))) (fun c => absurd c (by rw [ww]; decide))
          refine Exists.intro _ (And.intro (c_readKind_22 hT hB hS (one 3 (by decide) c3)) (And.intro (And.intro (Nat.zero_le _) (Nat.zero_le _)) (fun zq h' hpo => ?_)))
          rw [← hY] at hpo
          obtain ⟨b, rfl⟩ := x_PLd_z hpo
          exact jn b _ hpo
        by_cases c4 : y_wm a m q = 4
        · have hY : y_part a m S q = y_good a m S q := by unfold y_part; rw [if_neg c0, if_neg c1, if_neg c2, if_neg c3, if_pos c4]
          have ww : (F 10 7).toInt = 5 := by rw [hx, c4]; rfl
          refine And.intro (And.intro (fun c => absurd (ww.symm.trans c) (by decide)) (And.intro (fun c => absurd (ww.symm.trans c) (by decide)) (And.intro (fun c => absurd (ww.symm.trans c) (by decide)) (And.intro (fun c => absurd (ww.symm.trans c) (by decide)) (And.intro (fun c => absurd (ww.symm.trans c) (by decide)) (And.intro (fun _ => ?_) (And.intro (fun c => absurd (ww.symm.trans c) (by decide)) (And.intro (fun c => absurd (ww.symm.trans c) (by decide)) (And.intro (fun c => absurd (ww.symm.trans c) (by decide)) (And.intro (fun c => absurd (ww.symm.trans c) (by decide)) (And.intro (fun c => absurd (ww.symm.trans c) (by decide)) trivial))))))))))) (fun c => absurd c (by rw [ww]; decide))
          refine Exists.intro _ (And.intro (c_readGood_22 hT hB hS (one 4 (by decide) c4)) (And.intro (And.intro (Nat.zero_le _) (Nat.zero_le _)) (fun zq h' hpo => ?_)))
          rw [← hY] at hpo
          obtain ⟨b, rfl⟩ := x_PLd_z hpo
          exact jn b _ hpo
        by_cases c5 : y_wm a m q = 5
        · have hY : y_part a m S q = y_pers a m S q := by unfold y_part; rw [if_neg c0, if_neg c1, if_neg c2, if_neg c3, if_neg c4, if_pos c5]
          have ww : (F 10 7).toInt = 8 := by rw [hx, c5]; rfl
          refine And.intro (And.intro (fun c => absurd (ww.symm.trans c) (by decide)) (And.intro (fun c => absurd (ww.symm.trans c) (by decide)) (And.intro (fun c => absurd (ww.symm.trans c) (by decide)) (And.intro (fun c => absurd (ww.symm.trans c) (by decide)) (And.intro (fun c => absurd (ww.symm.trans c) (by decide)) (And.intro (fun c => absurd (ww.symm.trans c) (by decide)) (And.intro (fun c => absurd (ww.symm.trans c) (by decide)) (And.intro (fun c => absurd (ww.symm.trans c) (by decide)) (And.intro (fun _ => ?_) (And.intro (fun c => absurd (ww.symm.trans c) (by decide)) (And.intro (fun c => absurd (ww.symm.trans c) (by decide)) trivial))))))))))) (fun c => absurd c (by rw [ww]; decide))
          refine Exists.intro _ (And.intro (c_readPerson_22 hT hB hS (one 5 (by decide) c5)) (And.intro (And.intro (Nat.zero_le _) (Nat.zero_le _)) (fun zq h' hpo => ?_)))
          rw [← hY] at hpo
          obtain ⟨b, rfl⟩ := x_PLd_z hpo
          exact jn b _ hpo
        by_cases c6 : y_wm a m q = 6
        · have hY : y_part a m S q = y_has a m S q := by unfold y_part; rw [if_neg c0, if_neg c1, if_neg c2, if_neg c3, if_neg c4, if_neg c5, if_pos c6]
          have ww : (F 10 7).toInt = 10 := by rw [hx, c6]; rfl
          refine And.intro (And.intro (fun c => absurd (ww.symm.trans c) (by decide)) (And.intro (fun c => absurd (ww.symm.trans c) (by decide)) (And.intro (fun c => absurd (ww.symm.trans c) (by decide)) (And.intro (fun c => absurd (ww.symm.trans c) (by decide)) (And.intro (fun c => absurd (ww.symm.trans c) (by decide)) (And.intro (fun c => absurd (ww.symm.trans c) (by decide)) (And.intro (fun c => absurd (ww.symm.trans c) (by decide)) (And.intro (fun c => absurd (ww.symm.trans c) (by decide)) (And.intro (fun c => absurd (ww.symm.trans c) (by decide)) (And.intro (fun c => absurd (ww.symm.trans c) (by decide)) (And.intro (fun _ => ?_) trivial))))))))))) (fun c => absurd c (by rw [ww]; decide))
          refine Exists.intro _ (And.intro (c_readHas_22 hT hB hS (one 6 (by decide) c6)) (And.intro (And.intro (Nat.zero_le _) (Nat.zero_le _)) (fun zq h' hpo => ?_)))
          rw [← hY] at hpo
          obtain ⟨b, rfl⟩ := x_PLd_z hpo
          exact jn b _ hpo
        have hY : y_part a m S q = .inl (y_fl a m q 2) := by unfold y_part; rw [if_neg c0, if_neg c1, if_neg c2, if_neg c3, if_neg c4, if_neg c5, if_neg c6]
        have out : (F 10 7).toInt ≠ 0 ∧ (F 10 7).toInt ≠ 1 ∧ (F 10 7).toInt ≠ 2 ∧ (F 10 7).toInt ≠ 3 ∧ (F 10 7).toInt ≠ 5 ∧ (F 10 7).toInt ≠ 8 ∧ (F 10 7).toInt ≠ 10 := by
          rw [hx]
          rcases y_wm_rg a m q with h | ⟨k, hk, h⟩
          · rw [h]
            decide
          · rw [h]
            refine y_tr_out k hk ?_
            refine Classical.byContradiction (fun hk7 => ?_)
            have : k = 0 ∨ k = 1 ∨ k = 2 ∨ k = 3 ∨ k = 4 ∨ k = 5 ∨ k = 6 := by omega
            rcases this with rfl | rfl | rfl | rfl | rfl | rfl | rfl
            · exact c0 h
            · exact c1 h
            · exact c2 h
            · exact c3 h
            · exact c4 h
            · exact c5 h
            · exact c6 h
        obtain ⟨o0, o1, o2, o3, o5, o8, o10⟩ := out
        exact And.intro (And.intro (fun c => absurd c o0) (And.intro (fun c => absurd c o1) (And.intro (fun c => absurd c o2) (And.intro (fun c => absurd c o3) (And.intro (fun _ => bad hY) (And.intro (fun c => absurd c o5) (And.intro (fun _ => bad hY) (And.intro (fun _ => bad hY) (And.intro (fun c => absurd c o8) (And.intro (fun _ => bad hY) (And.intro (fun c => absurd c o10) trivial))))))))))) (fun _ => bad hY)
  refine x_Ct_w (by decide) (Nat.le_of_ble_eq_true rfl) ok36 [4] 6 ?_
  exact loop j0 S q 0 f g hB hS hq hj (Nat.zero_le _) x_fL_r hX0.symm
theorem c_isTakenL_12 {j0 : Nat} (hT : y_TP a m) (hB : v_BA S.1) (hS : x_LS 12 a m S q f g) (hq : q ≤ m) (hj : m - q ≤ j0) : x_Ct 36 (d + 5) [.ref 600] (f, g, x_HR 22 t, dm, n) (x_PLe 12 f g (x_HR 22 t) dm n (y_parts a m j0 S q)) := by
  obtain ⟨X0, hX0⟩ : ∃ X0, X0 = y_parts a m j0 S q := ⟨_, rfl⟩
  rw [← hX0]
  obtain ⟨Po, hPo⟩ : ∃ Po : Option Value → xH → Prop, Po = x_PLe 12 f g (x_HR 22 t) dm n X0 := ⟨_, rfl⟩
  rw [← hPo]
  have hL : (12 : Nat) = 12 ∨ (12 : Nat) = 22 := by decide
  have tail : ∀ F G v' (b : Int32) x, v_C F G 12 v' → v_B v' → (b = 0 ∨ b = 1) → Po (some (.int b)) (x_up F 12 4 (nI (1 + v_out v' / v' 3 0 0)), G, x_HR 22 t, dm, n) → x_J 36 (d + 5) Po 166 [some (.ref 600), some (.int b), some (.int x)] [] (F, G, x_HR 22 t, dm, n) 0 0 := by
    intro F G v' b x hC hB' hb hp
    have ho := v_out_le hB'
    refine x_wp_ok ok36 [] 6 ?_
    refine Exists.intro _ (And.intro (c_outNow_12 hC hB') (And.intro (And.intro (Nat.zero_le _) (Nat.zero_le _)) (fun q h' hpo => ?_)))
    obtain ⟨rfl, rfl⟩ := hpo
    refine Exists.intro _ (And.intro (c_levelAfter_12 (m := 0) (o := v_out v') hC hB' (by decide) (by omega)) (And.intro (And.intro (Nat.zero_le _) (Nat.zero_le _)) (fun q h' hpo => ?_)))
    obtain ⟨rfl, rfl⟩ := hpo
    rw [Nat.zero_mul, Nat.add_zero]
    exact And.intro hp ⟨hb, Nat.le_refl _, Nat.le_refl _⟩
  have tl1 : ∀ F G (S : xL) x, X0 = .inr S → v_BA S.1 → v_CA F G 12 S.1 → y_NR (G 14) S.1 S.2.1 → x_fL 12 f g F G → x_J 36 (d + 5) Po 166 [some (.ref 600), some (.int 1), some (.int x)] [] (F, G, x_HR 22 t, dm, n) 0 0 := by
    intro F G S x hX hB' hC hN hf
    refine tail F G S.1 1 x (v_CA_C hB' hC) (v_BA_B hB') (Or.inr rfl) ?_
    rw [hPo, hX]
    refine ⟨rfl, _, G, rfl, x_fL_t hf (x_fL_up (Or.inr (by decide))), ?_, y_lv0_B (v_BA_B hB'), hN⟩
    exact v_C_set (v_CA_C hB' hC) (v_BA_K hB') (v_BA_G hB') (c := 7) (i := 0) (j := 0) ⟨rfl, rfl⟩ (by decide)
  have tl0 : ∀ F G (e : Nat × Nat) v' x, X0 = .inl e → v_C F G 12 v' → v_B v' → x_FL F e → x_fL 12 f g F G → x_J 36 (d + 5) Po 166 [some (.ref 600), some (.int 0), some (.int x)] [] (F, G, x_HR 22 t, dm, n) 0 0 := by
    intro F G e v' x hX hC hB' he hf
    refine tail F G v' 0 x hC hB' (Or.inl rfl) ?_
    rw [hPo, hX]
    exact ⟨rfl, _, G, rfl, x_fL_t hf (x_fL_up (Or.inr (by decide))), he⟩
  have loop : ∀ j (S : xL) q i F G, v_BA S.1 → x_LS 12 a m S q F G → q ≤ m → m - q ≤ j → i ≤ q → x_fL 12 f g F G → y_parts a m j S q = X0 → x_J 36 (d + 5) Po 4 [some (.ref 600), some (.int 1), some (.int (nI i))] [] (F, G, x_HR 22 t, dm, n) 0 0 := by
    intro j
    induction j with
    | zero =>
      intro S q i F G hB hS hq hj hi hf hX
      have h3 : y_sa a m q = 3 := if_neg (by omega)
      refine x_wp_ok ok36 [4, 166] 6 ?_
      rw [y_parts_3 h3] at hX
      refine And.intro (fun _ => tl1 F G S _ hX.symm hB hS.2.1 hS.2.2.1 hf) (fun _ => ?_)
      refine And.intro (fun c => absurd (show (1 : Int32) = 0 from c) (by decide)) (fun _ => ?_)
      refine And.intro (fun _ => tl1 F G S _ hX.symm hB hS.2.1 hS.2.2.1 hf) (fun c => absurd (show F 10 4 = 3 by rw [hS.1.2.2.2.1, y_tk_3]; exact h3) c)
    | succ j ih =>
      intro S q i F G hB hS hq hj hi hf hX
      by_cases h3 : y_sa a m q = 3
      · refine x_wp_ok ok36 [4, 166] 6 ?_
        rw [y_parts_3 h3] at hX
        refine And.intro (fun _ => tl1 F G S _ hX.symm hB hS.2.1 hS.2.2.1 hf) (fun _ => ?_)
        refine And.intro (fun c => absurd (show (1 : Int32) = 0 from c) (by decide)) (fun _ => ?_)
        refine And.intro (fun _ => tl1 F G S _ hX.symm hB hS.2.1 hS.2.2.1 hf) (fun c => absurd (show F 10 4 = 3 by rw [hS.1.2.2.2.1, y_tk_3]; exact h3) c)
      · rw [y_parts_S h3] at hX
        have hlt := y_sa_lt h3
        have hm9 := hT.1
        have jn : ∀ (b : Int32) h', x_PLd 12 a m F G (x_HR 22 t) dm n (y_part a m S q) (some (.int b)) h' → x_J 36 (d + 5) Po 160 [some (.ref 600), some (.int b), some (.int (nI i))] [] h' 0 0 := by
          intro b h' hp
          cases hY : y_part a m S q with
          | inl e =>
            rw [hY] at hp hX
            obtain ⟨hb, F2, G2, rfl, w1, w2, v', w3, w4⟩ := hp
            cases hb
            refine x_wp_ok ok36 [166] 6 ?_
            refine And.intro (fun _ => tl0 F2 G2 e v' _ hX.symm w3 w4 w2 (x_fL_t hf w1)) (fun _ => ?_)
            refine And.intro (fun _ => tl0 F2 G2 e v' _ hX.symm w3 w4 w2 (x_fL_t hf w1)) (fun c => absurd rfl c)
          | inr w =>
            have k1 := y_part_ok hB hY
            rw [hY] at hp hX
            obtain ⟨hb, F2, G2, rfl, w1, w2⟩ := hp
            cases hb
            have e0 := ih w.1 w.2 (i + 1) F2 G2 k1.1 w2 k1.2.2 (by omega) (by omega) (x_fL_t hf w1) hX
            rw [← nI_1o] at e0
            refine x_wp_ok ok36 [4] 6 ?_
            exact e0
        have bad : y_part a m S q = .inl (y_fl a m q 2) → x_J 36 (d + 5) Po 151 [some (.ref 600), some (.int 1), some (.int (nI i))] [] (F, G, x_HR 22 t, dm, n) 0 0 := by
          intro hY
          refine x_wp_ok ok36 [160] 6 ?_
          refine Exists.intro _ (And.intro (c_fail (k := 2) hS.1) (And.intro (And.intro (Nat.zero_le _) (Nat.zero_le _)) (fun zq h' hpo => ?_)))
          obtain ⟨rfl, F1, rfl, u1, u2⟩ := hpo
          refine jn 0 _ ?_
          rw [hY]
          exact ⟨rfl, F1, G, rfl, x_fL_10 u1, u2, S.1, v_CA_C hB (v_CA_10 hL u1 hS.2.1), v_BA_B hB⟩
        refine x_wp_ok ok36 [4, 151, 160, 166] 6 ?_
        refine And.intro (fun c => absurd (show nI 900 ≤ nI i from c) (nI_ge (by omega) (by decide))) (fun _ => ?_)
        refine And.intro (fun c => absurd (show (1 : Int32) = 0 from c) (by decide)) (fun _ => ?_)
        refine And.intro (fun c => absurd (show F 10 4 = 3 from c) (by rw [hS.1.2.2.2.1, y_tk_3]; exact h3)) (fun _ => ?_)
        have hx : F 10 7 = y_tr (y_wm a m q) := hS.1.2.2.2.2.1
        have one : ∀ k, k < 25 → y_wm a m q = nI k → y_sa a m q = 1 := by
          intro k hk h
          have no : ∀ j, j < 25 → ¬ nI j = -1 := by decide +kernel
          exact y_wm_sa (by rw [h]; exact no k hk)
        by_cases c0 : y_wm a m q = 0
        · have hY : y_part a m S q = y_rule a m 0 S q := if_pos c0
          have ww : (F 10 7).toInt = 0 := by rw [hx, c0]; rfl
          refine And.intro (And.intro (fun _ => ?_) (And.intro (fun c => absurd (ww.symm.trans c) (by decide)) (And.intro (fun c => absurd (ww.symm.trans c) (by decide)) (And.intro (fun c => absurd (ww.symm.trans c) (by decide)) (And.intro (fun c => absurd (ww.symm.trans c) (by decide)) (And.intro (fun c => absurd (ww.symm.trans c) (by decide)) (And.intro (fun c => absurd (ww.symm.trans c) (by decide)) (And.intro (fun c => absurd (ww.symm.trans c) (by decide)) (And.intro (fun c => absurd (ww.symm.trans c) (by decide)) (And.intro (fun c => absurd (ww.symm.trans c) (by decide)) (And.intro (fun c => absurd (ww.symm.trans c) (by decide)) trivial))))))))))) (fun c => absurd c (by rw [ww]; decide))
          refine Exists.intro _ (And.intro (c_readRule_12_0 hT hB hS (one 0 (by decide) c0)) (And.intro (And.intro (Nat.zero_le _) (Nat.zero_le _)) (fun zq h' hpo => ?_)))
          rw [← hY] at hpo
          obtain ⟨b, rfl⟩ := x_PLd_z hpo
          exact jn b _ hpo
        by_cases c1 : y_wm a m q = 1
        · have hY : y_part a m S q = y_rule a m 1 S q := by unfold y_part; rw [if_neg c0, if_pos c1]
          have ww : (F 10 7).toInt = 1 := by rw [hx, c1]; rfl
          refine And.intro (And.intro (fun c => absurd (ww.symm.trans c) (by decide)) (And.intro (fun _ => ?_) (And.intro (fun c => absurd (ww.symm.trans c) (by decide)) (And.intro (fun c => absurd (ww.symm.trans c) (by decide)) (And.intro (fun c => absurd (ww.symm.trans c) (by decide)) (And.intro (fun c => absurd (ww.symm.trans c) (by decide)) (And.intro (fun c => absurd (ww.symm.trans c) (by decide)) (And.intro (fun c => absurd (ww.symm.trans c) (by decide)) (And.intro (fun c => absurd (ww.symm.trans c) (by decide)) (And.intro (fun c => absurd (ww.symm.trans c) (by decide)) (And.intro (fun c => absurd (ww.symm.trans c) (by decide)) trivial))))))))))) (fun c => absurd c (by rw [ww]; decide))
          refine Exists.intro _ (And.intro (c_readRule_12_1 hT hB hS (one 1 (by decide) c1)) (And.intro (And.intro (Nat.zero_le _) (Nat.zero_le _)) (fun zq h' hpo => ?_)))
          rw [← hY] at hpo
          obtain ⟨b, rfl⟩ := x_PLd_z hpo
          exact jn b _ hpo
        by_cases c2 : y_wm a m q = 2
        · have hY : y_part a m S q = y_rule a m 2 S q := by unfold y_part; rw [if_neg c0, if_neg c1, if_pos c2]
          have ww : (F 10 7).toInt = 2 := by rw [hx, c2]; rfl
          refine And.intro (And.intro (fun c => absurd (ww.symm.trans c) (by decide)) (And.intro (fun c => absurd (ww.symm.trans c) (by decide)) (And.intro (fun _ => ?_) (And.intro (fun c => absurd (ww.symm.trans c) (by decide)) (And.intro (fun c => absurd (ww.symm.trans c) (by decide)) (And.intro (fun c => absurd (ww.symm.trans c) (by decide)) (And.intro (fun c => absurd (ww.symm.trans c) (by decide)) (And.intro (fun c => absurd (ww.symm.trans c) (by decide)) (And.intro (fun c => absurd (ww.symm.trans c) (by decide)) (And.intro (fun c => absurd (ww.symm.trans c) (by decide)) (And.intro (fun c => absurd (ww.symm.trans c) (by decide)) trivial))))))))))) (fun c => absurd c (by rw [ww]; decide))
          refine Exists.intro _ (And.intro (c_readRule_12_2 hT hB hS (one 2 (by decide) c2)) (And.intro (And.intro (Nat.zero_le _) (Nat.zero_le _)) (fun zq h' hpo => ?_)))
          rw [← hY] at hpo
          obtain ⟨b, rfl⟩ := x_PLd_z hpo
          exact jn b _ hpo
        by_cases c3 : y_wm a m q = 3
        · have hY : y_part a m S q = y_kind a m S q := by unfold y_part; rw [if_neg c0, if_neg c1, if_neg c2, if_pos c3]
          have ww : (F 10 7).toInt = 3 := by rw [hx, c3]; rfl
          refine And.intro (And.intro (fun c => absurd (ww.symm.trans c) (by decide)) (And.intro (fun c => absurd (ww.symm.trans c) (by decide)) (And.intro (fun c => absurd (ww.symm.trans c) (by decide)) (And.intro (fun _ => ?_) (And.intro (fun c => absurd (ww.symm.trans c) (by decide)) (And.intro (fun c => absurd (ww.symm.trans c) (by decide)) (And.intro (fun c => absurd (ww.symm.trans c) (by decide)) (And.intro (fun c => absurd (ww.symm.trans c) (by decide)) (And.intro (fun c => absurd (ww.symm.trans c) (by decide)) (And.intro (fun c => absurd (ww.symm.trans c) (by decide)) (And.intro (fun c => absurd (ww.symm.trans c) (by decide)) trivial))))))))))) (fun c => absurd c (by rw [ww]; decide))
          refine Exists.intro _ (And.intro (c_readKind_12 hT hB hS (one 3 (by decide) c3)) (And.intro (And.intro (Nat.zero_le _) (Nat.zero_le _)) (fun zq h' hpo => ?_)))
          rw [← hY] at hpo
          obtain ⟨b, rfl⟩ := x_PLd_z hpo
          exact jn b _ hpo
        by_cases c4 : y_wm a m q = 4
        · have hY : y_part a m S q = y_good a m S q := by unfold y_part; rw [if_neg c0, if_neg c1, if_neg c2, if_neg c3, if_pos c4]
          have ww : (F 10 7).toInt = 5 := by rw [hx, c4]; rfl
          refine And.intro (And.intro (fun c => absurd (ww.symm.trans c) (by decide)) (And.intro (fun c => absurd (ww.symm.trans c) (by decide)) (And.intro (fun c => absurd (ww.symm.trans c) (by decide)) (And.intro (fun c => absurd (ww.symm.trans c) (by decide)) (And.intro (fun c => absurd (ww.symm.trans c) (by decide)) (And.intro (fun _ => ?_) (And.intro (fun c => absurd (ww.symm.trans c) (by decide)) (And.intro (fun c => absurd (ww.symm.trans c) (by decide)) (And.intro (fun c => absurd (ww.symm.trans c) (by decide)) (And.intro (fun c => absurd (ww.symm.trans c) (by decide)) (And.intro (fun c => absurd (ww.symm.trans c) (by decide)) trivial))))))))))) (fun c => absurd c (by rw [ww]; decide))
          refine Exists.intro _ (And.intro (c_readGood_12 hT hB hS (one 4 (by decide) c4)) (And.intro (And.intro (Nat.zero_le _) (Nat.zero_le _)) (fun zq h' hpo => ?_)))
          rw [← hY] at hpo
          obtain ⟨b, rfl⟩ := x_PLd_z hpo
          exact jn b _ hpo
        by_cases c5 : y_wm a m q = 5
        · have hY : y_part a m S q = y_pers a m S q := by unfold y_part; rw [if_neg c0, if_neg c1, if_neg c2, if_neg c3, if_neg c4, if_pos c5]
          have ww : (F 10 7).toInt = 8 := by rw [hx, c5]; rfl
          refine And.intro (And.intro (fun c => absurd (ww.symm.trans c) (by decide)) (And.intro (fun c => absurd (ww.symm.trans c) (by decide)) (And.intro (fun c => absurd (ww.symm.trans c) (by decide)) (And.intro (fun c => absurd (ww.symm.trans c) (by decide)) (And.intro (fun c => absurd (ww.symm.trans c) (by decide)) (And.intro (fun c => absurd (ww.symm.trans c) (by decide)) (And.intro (fun c => absurd (ww.symm.trans c) (by decide)) (And.intro (fun c => absurd (ww.symm.trans c) (by decide)) (And.intro (fun _ => ?_) (And.intro (fun c => absurd (ww.symm.trans c) (by decide)) (And.intro (fun c => absurd (ww.symm.trans c) (by decide)) trivial))))))))))) (fun c => absurd c (by rw [ww]; decide))
          refine Exists.intro _ (And.intro (c_readPerson_12 hT hB hS (one 5 (by decide) c5)) (And.intro (And.intro (Nat.zero_le _) (Nat.zero_le _)) (fun zq h' hpo => ?_)))
          rw [← hY] at hpo
          obtain ⟨b, rfl⟩ := x_PLd_z hpo
          exact jn b _ hpo
        by_cases c6 : y_wm a m q = 6
        · have hY : y_part a m S q = y_has a m S q := by unfold y_part; rw [if_neg c0, if_neg c1, if_neg c2, if_neg c3, if_neg c4, if_neg c5, if_pos c6]
          have ww : (F 10 7).toInt = 10 := by rw [hx, c6]; rfl
          refine And.intro (And.intro (fun c => absurd (ww.symm.trans c) (by decide)) (And.intro (fun c => absurd (ww.symm.trans c) (by decide)) (And.intro (fun c => absurd (ww.symm.trans c) (by decide)) (And.intro (fun c => absurd (ww.symm.trans c) (by decide)) (And.intro (fun c => absurd (ww.symm.trans c) (by decide)) (And.intro (fun c => absurd (ww.symm.trans c) (by decide)) (And.intro (fun c => absurd (ww.symm.trans c) (by decide)) (And.intro (fun c => absurd (ww.symm.trans c) (by decide)) (And.intro (fun c => absurd (ww.symm.trans c) (by decide)) (And.intro (fun c => absurd (ww.symm.trans c) (by decide)) (And.intro (fun _ => ?_) trivial))))))))))) (fun c => absurd c (by rw [ww]; decide))
          refine Exists.intro _ (And.intro (c_readHas_12 hT hB hS (one 6 (by decide) c6)) (And.intro (And.intro (Nat.zero_le _) (Nat.zero_le _)) (fun zq h' hpo => ?_)))
          rw [← hY] at hpo
          obtain ⟨b, rfl⟩ := x_PLd_z hpo
          exact jn b _ hpo
        have hY : y_part a m S q = .inl (y_fl a m q 2) := by unfold y_part; rw [if_neg c0, if_neg c1, if_neg c2, if_neg c3, if_neg c4, if_neg c5, if_neg c6]
        have out : (F 10 7).toInt ≠ 0 ∧ (F 10 7).toInt ≠ 1 ∧ (F 10 7).toInt ≠ 2 ∧ (F 10 7).toInt ≠ 3 ∧ (F 10 7).toInt ≠ 5 ∧ (F 10 7).toInt ≠ 8 ∧ (F 10 7).toInt ≠ 10 := by
          rw [hx]
          rcases y_wm_rg a m q with h | ⟨k, hk, h⟩
          · rw [h]
            decide
          · rw [h]
            refine y_tr_out k hk ?_
            refine Classical.byContradiction (fun hk7 => ?_)
            have : k = 0 ∨ k = 1 ∨ k = 2 ∨ k = 3 ∨ k = 4 ∨ k = 5 ∨ k = 6 := by omega
            rcases this with rfl | rfl | rfl | rfl | rfl | rfl | rfl
            · exact c0 h
            · exact c1 h
            · exact c2 h
            · exact c3 h
            · exact c4 h
            · exact c5 h
            · exact c6 h
        obtain ⟨o0, o1, o2, o3, o5, o8, o10⟩ := out
        exact And.intro (And.intro (fun c => absurd c o0) (And.intro (fun c => absurd c o1) (And.intro (fun c => absurd c o2) (And.intro (fun c => absurd c o3) (And.intro (fun _ => bad hY) (And.intro (fun c => absurd c o5) (And.intro (fun _ => bad hY) (And.intro (fun _ => bad hY) (And.intro (fun c => absurd c o8) (And.intro (fun _ => bad hY) (And.intro (fun c => absurd c o10) trivial))))))))))) (fun _ => bad hY)
  refine x_Ct_w (by decide) (Nat.le_of_ble_eq_true rfl) ok36 [4] 6 ?_
  exact loop j0 S q 0 f g hB hS hq hj (Nat.zero_le _) x_fL_r hX0.symm
end C82
