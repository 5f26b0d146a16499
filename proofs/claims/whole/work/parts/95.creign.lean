/-! the class reads REIGNS: the reader's own cells are 610, 611; the story is T -/
def x_lc (F : Nat → Nat → Int32) (T : Nat) (S : xTr) (k : Nat) : Prop := F (T + 1) k = nI (y_wd (S.1 0 k)) ∧ (S.1 0 k ≤ 15 → F (T + 2) k = nI (S.1 1 k) ∧ F (T + 3) k = nI (S.1 2 k)) ∧ (18 ≤ S.1 0 k ∧ S.1 0 k ≤ 20 → F (T + 2) k = nI (S.1 0 k + 1) ∧ (S.1 0 k ≠ 18 → F (T + 3) k = nI (S.1 1 k)) ∧ F (T + 5) k = nI (S.1 5 k)) ∧ (S.1 0 k ≠ 17 → S.1 0 k ≠ 23 → S.1 0 k ≠ 24 → F (T + 4) k = nI (S.1 3 k)) ∧ (17 < S.1 0 k → S.1 0 k ≠ 24 → y_cl S k → F (T + 6) k = nI (S.1 4 k))
def x_RS (T : Nat) (a : Nat → Int32) (m : Nat) (S : xTr) (q : Nat) (F : Nat → Nat → Int32) (G : Nat → Nat → Int64) : Prop := x_RC a m q F G ∧ F T 1 = nI S.2.2.1 ∧ F T 2 = nI S.2.1 ∧ F 610 4 = nI S.2.2.2.1 ∧ (∀ i, i < S.2.2.2.1 → F 611 i = nI (S.2.2.2.2 i)) ∧ ∀ k, k < S.2.1 → x_lc F T S k
def x_fR (T : Nat) (f : Nat → Nat → Int32) (g : Nat → Nat → Int64) (F : Nat → Nat → Int32) (G : Nat → Nat → Int64) : Prop := (∀ c, c ≠ 10 → c ≠ 610 → c ≠ 611 → ¬ (T ≤ c ∧ c ≤ T + 6) → F c = f c) ∧ ∀ c, c ≠ 10 → G c = g c
def x_PR (T : Nat) (a : Nat → Int32) (m : Nat) (f : Nat → Nat → Int32) (g : Nat → Nat → Int64) (ρ : Nat → Nat → Option Nat) (dm : List Nat) (n : Nat) (X : xF (xTr × Nat)) (z : Option Value) (h' : xH) : Prop := match X with
  | .inl e => z = some (.int 0) ∧ ∃ F G, h' = (F, G, ρ, dm, n) ∧ x_fR T f g F G ∧ x_FL F e
  | .inr w => z = some (.int 1) ∧ ∃ F G, h' = (F, G, ρ, dm, n) ∧ x_fR T f g F G ∧ x_RS T a m w.1 w.2 F G
/-- what an order leaves in its line k -/
def x_od (T k : Nat) (z : xN5) (F : Nat → Nat → Int32) : Prop := (z.1 ≤ 15 → F (T + 2) k = nI z.2.1 ∧ F (T + 3) k = nI z.2.2.1) ∧ (18 ≤ z.1 ∧ z.1 ≤ 20 → F (T + 2) k = nI (z.1 + 1) ∧ (z.1 ≠ 18 → F (T + 3) k = nI z.2.1) ∧ F (T + 5) k = nI z.2.2.2.2) ∧ (z.1 ≠ 17 → z.1 ≠ 24 → F 10 9 = nI z.2.2.2.1)
/-- only the line k of the story has changed, and the reader -/
def x_fk (T k : Nat) (f : Nat → Nat → Int32) (g : Nat → Nat → Int64) (F : Nat → Nat → Int32) (G : Nat → Nat → Int64) : Prop := (∀ c, c ≠ 10 → c ≠ T + 2 → c ≠ T + 3 → c ≠ T + 5 → F c = f c) ∧ (∀ c, T + 2 ≤ c ∧ c ≤ T + 5 → ∀ j, j ≠ k → F c j = f c j) ∧ ∀ c, c ≠ 10 → G c = g c
def x_PO5 (T k : Nat) (a : Nat → Int32) (m : Nat) (f : Nat → Nat → Int32) (g : Nat → Nat → Int64) (ρ : Nat → Nat → Option Nat) (dm : List Nat) (n : Nat) (X : xF (xN5 × Nat)) (z : Option Value) (h' : xH) : Prop := match X with
  | .inl e => z = some (.int 0) ∧ ∃ F G, h' = (F, G, ρ, dm, n) ∧ x_fk T k f g F G ∧ x_FL F e
  | .inr w => z = some (.int 1) ∧ ∃ F G, h' = (F, G, ρ, dm, n) ∧ x_fk T k f g F G ∧ x_RC a m w.2 F G ∧ x_od T k w.1 F
section C95
variable {f : Nat → Nat → Int32} {g : Nat → Nat → Int64} {r t T k : Nat} {dm : List Nat} {n d L : Nat} {v : xV} {a : Nat → Int32} {m q : Nat} {N : Nat → Int64} {S : xTr} {ρ : Nat → Nat → Option Nat} {X : xF (xN5 × Nat)} {Y : xF (xTr × Nat)} {z : Option Value} {h' : xH} {e : Nat × Nat} {w : xN5 × Nat} {u : xTr × Nat} {F : Nat → Nat → Int32} {G : Nat → Nat → Int64}
theorem x_fk_r : x_fk T k f g f g := ⟨fun _ _ _ _ _ => rfl, fun _ _ _ _ => rfl, fun _ _ => rfl⟩
theorem x_fk_t {F2 : Nat → Nat → Int32} {G2 : Nat → Nat → Int64} (h1 : x_fk T k f g F G) (h2 : x_fk T k F G F2 G2) : x_fk T k f g F2 G2 := ⟨fun c c1 c2 c3 c4 => (h2.1 c c1 c2 c3 c4).trans (h1.1 c c1 c2 c3 c4), fun c hc j hj => (h2.2.1 c hc j hj).trans (h1.2.1 c hc j hj), fun c hc => (h2.2.2 c hc).trans (h1.2.2 c hc)⟩
theorem x_fk_10 (hT : 11 ≤ T) (h : x_f10 f g F G) : x_fk T k f g F G := ⟨fun c c1 _ _ _ => h.1 c c1, fun c hc j _ => by rw [h.1 c (by omega)], h.2⟩
theorem x_fk_up {c : Nat} {x : Int32} (hc : c = T + 2 ∨ c = T + 3 ∨ c = T + 5) : x_fk T k f g (x_up f c k x) g := ⟨fun c' _ c2 c3 c5 => x_up_k (by omega), fun c' _ j hj => by
  by_cases e : c' = c
  · rw [e, x_up_j hj]
  · rw [x_up_k e], fun _ _ => rfl⟩
theorem x_fk_9 {x : Int32} (hT : 11 ≤ T) : x_fk T k f g (x_up f 10 9 x) g := ⟨fun c c1 _ _ _ => x_up_k c1, fun c hc j _ => by rw [x_up_k (by omega)], fun _ _ => rfl⟩
theorem x_PO5_L (hX : X = .inl e) (h1 : x_fk T k f g F G) (h2 : x_FL F e) : x_PO5 T k a m f g ρ dm n X (some (.int 0)) (F, G, ρ, dm, n) := by
  subst hX
  exact ⟨rfl, F, G, rfl, h1, h2⟩
theorem x_PO5_R (hX : X = .inr w) (h1 : x_fk T k f g F G) (h2 : x_RC a m w.2 F G) (h3 : x_od T k w.1 F) : x_PO5 T k a m f g ρ dm n X (some (.int 1)) (F, G, ρ, dm, n) := by
  subst hX
  exact ⟨rfl, F, G, rfl, h1, h2, h3⟩
theorem x_RC_up {c i : Nat} {x : Int32} (hc : 11 < c) (hR : x_RC a m q f g) : x_RC a m q (x_up f c i x) g := ⟨(x_up_k (by omega)).trans hR.1, by rw [x_up_k (by omega)]; exact hR.2⟩
theorem c_isStepWord {w : Nat} (hw : w < 25) : x_V 63 d [.int (y_tr (nI w))] (f, g, x_HR r t, dm, n) (.int (x_bo (decide (11 ≤ w ∧ w ≤ 21 ∧ w ≠ 20)))) (f, g, x_HR r t, dm, n) := by
  have tab : ∀ w, w < 25 → (decide (11 ≤ w ∧ w ≤ 21 ∧ w ≠ 20) = true ↔ (¬ y_tr (nI w) < 11 ∧ y_tr (nI w) ≤ 18) ∨ y_tr (nI w) = 22 ∨ y_tr (nI w) = 24) := by decide +kernel
  have tw := tab w hw
  obtain ⟨x, hx⟩ : ∃ x, x = y_tr (nI w) := ⟨_, rfl⟩
  rw [← hx] at tw ⊢
  obtain ⟨b, hb⟩ : ∃ b, b = decide (11 ≤ w ∧ w ≤ 21 ∧ w ≠ 20) := ⟨_, rfl⟩
  rw [← hb] at tw ⊢
  have yes : ((¬ x < 11 ∧ x ≤ 18) ∨ x = 22 ∨ x = 24) → x_J 63 d (fun q h' => q = some (.int (x_bo b)) ∧ h' = (f, g, x_HR r t, dm, n)) 24 [some (.int x)] [] (f, g, x_HR r t, dm, n) 0 0 := by
    intro h
    rw [tw.mpr h]
    refine x_wp_ok ok63 [] 6 ?_
    exact And.intro ⟨rfl, rfl⟩ ⟨Or.inr rfl, Nat.le_refl _, Nat.le_refl _⟩
  have low : ¬ (¬ x < 11 ∧ x ≤ 18) → x_J 63 d (fun q h' => q = some (.int (x_bo b)) ∧ h' = (f, g, x_HR r t, dm, n)) 12 [some (.int x)] [] (f, g, x_HR r t, dm, n) 0 0 := by
    intro h
    refine x_wp_ok ok63 [24] 6 ?_
    refine And.intro (fun c1 => ?_) (fun c1 => ?_)
    · exact yes (Or.inr (Or.inl c1))
    · have c1 : ¬ x = 22 := c1
      refine And.intro (fun c2 => ?_) (fun c2 => ?_)
      · have c2 : ¬ x = 24 := c2
        have e : b = false := by
          cases hb2 : b with
          | false => rfl
          | true =>
            rw [hb2] at tw
            rcases tw.mp rfl with h1 | h1 | h1
            · exact absurd h1 h
            · exact absurd h1 c1
            · exact absurd h1 c2
        rw [e]
        exact And.intro ⟨rfl, rfl⟩ ⟨Or.inl rfl, Nat.le_refl _, Nat.le_refl _⟩
      · exact yes (Or.inr (Or.inr c2))
  refine x_Ct_w (by decide) (Nat.le_of_ble_eq_true rfl) ok63 [12, 24] 6 ?_
  refine And.intro (fun c1 => ?_) (fun c1 => ?_)
  · have c1 : x < 11 := c1
    exact low (fun h => h.1 c1)
  · have c1 : ¬ x < 11 := c1
    refine And.intro (fun c2 => ?_) (fun c2 => ?_)
    · exact yes (Or.inl ⟨c1, c2⟩)
    · have c2 : ¬ x ≤ 18 := c2
      exact low (fun h => c2 h.2)
theorem c_isStepWord_no : x_V 63 d [.int (y_tr (-1))] (f, g, x_HR r t, dm, n) (.int 0) (f, g, x_HR r t, dm, n) := by
  refine x_Ct_w (by decide) (Nat.le_of_ble_eq_true rfl) ok63 [] 6 ?_
  refine And.intro (fun _ => ?_) (fun c => absurd (by decide) c)
  refine And.intro (fun c => absurd c (by decide)) (fun _ => ?_)
  refine And.intro (fun _ => ?_) (fun c => absurd c (by decide))
  exact And.intro ⟨rfl, rfl⟩ ⟨Or.inl rfl, Nat.le_refl _, Nat.le_refl _⟩
theorem c_readDeedK_12_32 {w : Nat} (hw : w = 11 ∨ w = 14 ∨ w = 15) (hT : y_TP a m) (hq : q ≤ m) (hk : k < 60) (hR : x_RC a m q f g) (h0 : f 12 0 = nI (v 0 0 0)) (h2 : f 12 2 = nI (v 2 0 0)) (b0 : v 0 0 0 ≤ 4) (b2 : v 2 0 0 ≤ 5) (hN : y_NR (g 14) v N) : x_Ct 64 (d + 3) [.ref 610, .int (nI w), .int (nI k)] (f, g, x_HR 12 32, dm, n) (x_PO5 39 k a m f g (x_HR 12 32) dm n (y_deed a m N (v 2 0 0) (v 0 0 0) 0 w q)) := by
  obtain ⟨Po, hPo⟩ : ∃ Po : Option Value → xH → Prop, Po = x_PO5 39 k a m f g (x_HR 12 32) dm n (y_deed a m N (v 2 0 0) (v 0 0 0) 0 w q) := ⟨_, rfl⟩
  rw [← hPo]
  have c12 : ¬ nI w = nI 12 := by rw [nI_eq (by omega) (by decide)]; omega
  have c13 : ¬ nI w = nI 13 := by rw [nI_eq (by omega) (by decide)]; omega
  refine x_Ct_w (by decide) (Nat.le_of_ble_eq_true rfl) ok64 [] 6 ?_
  refine Exists.intro _ (And.intro (c_takeOldName_12_9 (N := N) (M := v 2 0 0) hT hq hR h2 b2 (y_NR_9 hN _)) (And.intro (And.intro (Nat.zero_le _) (Nat.zero_le _)) (fun zq h' hpo => ?_)))
  cases e1 : y_old a m N 9 (v 2 0 0) q with
  | inl e =>
    obtain ⟨rfl, F1, G1, rfl, u1, u2⟩ := x_PT_l e1 hpo
    refine And.intro (fun c => absurd rfl c) (fun _ => ?_)
    refine And.intro ?_ ⟨Or.inl rfl, Nat.le_refl _, Nat.le_refl _⟩
    rw [hPo]
    refine x_PO5_L ?_ (x_fk_10 (by decide) u1) u2
    unfold y_deed
    rw [e1]
    rfl
  | inr p =>
    obtain ⟨rfl, F1, G1, rfl, u1, u2, u3⟩ := x_PT_r e1 hpo
    have k1 := y_old_gt e1
    refine And.intro (fun _ => ?_) (fun c => absurd (show (1 : Int32) = 0 from c) (by decide))
    refine And.intro (x_ix_nI (by omega) (by omega)) ?_
    rw [nI_clamp (by omega)]
    refine And.intro (fun c => absurd c c12) (fun _ => ?_)
    refine And.intro (fun _ => ?_) (fun c => absurd c c13)
    refine And.intro (fun _ => ?_) (fun c => absurd rfl c)
    have r2 : x_RC a m p.2 (x_up F1 41 k (F1 10 9)) G1 := x_RC_up (by decide) u2
    refine Exists.intro _ (And.intro (c_takeOldName_12_0 (N := N) (M := v 0 0 0) hT k1.1.2 r2 (show x_up F1 41 k (F1 10 9) 12 0 = nI (v 0 0 0) by rw [x_up_k (by decide), u1.1 12 (by decide)]; exact h0) b0 (by rw [u1.2 14 (by decide)]; exact y_NR_0 hN _)) (And.intro (And.intro (Nat.zero_le _) (Nat.zero_le _)) (fun zq h' hpo => ?_)))
    cases e2 : y_old a m N 0 (v 0 0 0) p.2 with
    | inl e =>
      obtain ⟨rfl, F2, G2, rfl, w1, w2⟩ := x_PT_l e2 hpo
      refine And.intro (fun c => absurd rfl c) (fun _ => ?_)
      refine And.intro ?_ ⟨Or.inl rfl, Nat.le_refl _, Nat.le_refl _⟩
      rw [hPo]
      refine x_PO5_L ?_ (x_fk_t (x_fk_10 (by decide) u1) (x_fk_t (x_fk_up (Or.inl rfl)) (x_fk_10 (by decide) w1))) w2
      unfold y_deed
      rw [e1]
      show y_bd (y_old a m N 0 (v 0 0 0) p.2) _ = _
      rw [e2]
      rfl
    | inr i =>
      obtain ⟨rfl, F2, G2, rfl, w1, w2, w3⟩ := x_PT_r e2 hpo
      have k2 := y_old_gt e2
      refine And.intro (fun _ => ?_) (fun c => absurd (show (1 : Int32) = 0 from c) (by decide))
      refine And.intro (x_ix_nI (by omega) (by omega)) ?_
      rw [nI_clamp (by omega)]
      have r3 : x_RC a m i.2 (x_up F2 42 k (F2 10 9)) G2 := x_RC_up (by decide) w2
      refine Exists.intro _ (And.intro (c_takeNumber (lo := 1) (hi := 99) (by decide) (by decide) hT r3) (And.intro (And.intro (Nat.zero_le _) (Nat.zero_le _)) (fun zq h' hpo => ?_)))
      have fr : x_fk 39 k f g (x_up F2 42 k (F2 10 9)) G2 := x_fk_t (x_fk_10 (by decide) u1) (x_fk_t (x_fk_up (Or.inl rfl)) (x_fk_t (x_fk_10 (by decide) w1) (x_fk_up (Or.inr (Or.inl rfl)))))
      cases e3 : y_nbr a m 1 99 i.2 with
      | inl e =>
        obtain ⟨rfl, F3, G3, rfl, p1, p2⟩ := x_PT_l e3 hpo
        refine And.intro ?_ ⟨Or.inl rfl, Nat.le_refl _, Nat.le_refl _⟩
        rw [hPo]
        refine x_PO5_L ?_ (x_fk_t fr (x_fk_10 (by decide) p1)) p2
        unfold y_deed
        rw [e1]
        show y_bd (y_old a m N 0 (v 0 0 0) p.2) _ = _
        rw [e2]
        show y_bd (y_nbr a m 1 99 i.2) _ = _
        rw [e3]
        rfl
      | inr x =>
        obtain ⟨rfl, F3, G3, rfl, p1, p2, p3⟩ := x_PT_r e3 hpo
        refine And.intro ?_ ⟨Or.inr rfl, Nat.le_refl _, Nat.le_refl _⟩
        rw [hPo]
        refine x_PO5_R (w := ((w, p.1, i.1, x.1, 0), x.2)) ?_ (x_fk_t fr (x_fk_10 (by decide) p1)) p2 ⟨fun _ => ⟨?_, ?_⟩, fun h => absurd h (by show ¬ (18 ≤ w ∧ w ≤ 20); omega), fun _ _ => p3⟩
        · unfold y_deed
          rw [e1]
          show y_bd (y_old a m N 0 (v 0 0 0) p.2) _ = _
          rw [e2]
          show y_bd (y_nbr a m 1 99 i.2) _ = _
          rw [e3]
          rfl
        · rw [p1.1 _ (by decide), x_up_k (by decide), w1.1 _ (by decide), x_up_s]
          exact u3
        · rw [p1.1 _ (by decide), x_up_s]
          exact w3
theorem c_readDeedG_12_32 {w : Nat} (hw : w = 12 ∨ w = 13) (hT : y_TP a m) (hq : q ≤ m) (hk : k < 60) (hR : x_RC a m q f g) (h0 : f 12 1 = nI (v 1 0 0)) (h2 : f 12 2 = nI (v 2 0 0)) (b0 : v 1 0 0 ≤ 5) (b2 : v 2 0 0 ≤ 5) (hN : y_NR (g 14) v N) : x_Ct 64 (d + 3) [.ref 610, .int (nI w), .int (nI k)] (f, g, x_HR 12 32, dm, n) (x_PO5 39 k a m f g (x_HR 12 32) dm n (y_deed a m N (v 2 0 0) (v 1 0 0) 4 w q)) := by
  obtain ⟨Po, hPo⟩ : ∃ Po : Option Value → xH → Prop, Po = x_PO5 39 k a m f g (x_HR 12 32) dm n (y_deed a m N (v 2 0 0) (v 1 0 0) 4 w q) := ⟨_, rfl⟩
  rw [← hPo]
  refine x_Ct_w (by decide) (Nat.le_of_ble_eq_true rfl) ok64 [46, 52] 6 ?_
  refine Exists.intro _ (And.intro (c_takeOldName_12_9 (N := N) (M := v 2 0 0) hT hq hR h2 b2 (y_NR_9 hN _)) (And.intro (And.intro (Nat.zero_le _) (Nat.zero_le _)) (fun zq h' hpo => ?_)))
  cases e1 : y_old a m N 9 (v 2 0 0) q with
  | inl e =>
    obtain ⟨rfl, F1, G1, rfl, u1, u2⟩ := x_PT_l e1 hpo
    refine And.intro (fun c => absurd rfl c) (fun _ => ?_)
    refine And.intro ?_ ⟨Or.inl rfl, Nat.le_refl _, Nat.le_refl _⟩
    rw [hPo]
    refine x_PO5_L ?_ (x_fk_10 (by decide) u1) u2
    unfold y_deed
    rw [e1]
    rfl
  | inr p =>
    obtain ⟨rfl, F1, G1, rfl, u1, u2, u3⟩ := x_PT_r e1 hpo
    have k1 := y_old_gt e1
    have go : x_J 64 (d + 3) Po 46 [some (.ref 610), some (.int (nI w)), some (.int (nI k)), none] [] (x_up F1 41 k (F1 10 9), G1, x_HR 12 32, dm, n) 0 0 := by
      refine x_wp_ok ok64 [] 6 ?_
      refine And.intro (fun c => absurd (show (1 : Int32) = 0 from c) (by decide)) (fun _ => ?_)
      have r2 : x_RC a m p.2 (x_up F1 41 k (F1 10 9)) G1 := x_RC_up (by decide) u2
      refine Exists.intro _ (And.intro (c_takeOldName_12_4 (N := N) (M := v 1 0 0) hT k1.1.2 r2 (show x_up F1 41 k (F1 10 9) 12 1 = nI (v 1 0 0) by rw [x_up_k (by decide), u1.1 12 (by decide)]; exact h0) b0 (by rw [u1.2 14 (by decide)]; exact y_NR_4 hN _)) (And.intro (And.intro (Nat.zero_le _) (Nat.zero_le _)) (fun zq h' hpo => ?_)))
      cases e2 : y_old a m N 4 (v 1 0 0) p.2 with
      | inl e =>
        obtain ⟨rfl, F2, G2, rfl, w1, w2⟩ := x_PT_l e2 hpo
        refine And.intro (fun c => absurd rfl c) (fun _ => ?_)
        refine And.intro ?_ ⟨Or.inl rfl, Nat.le_refl _, Nat.le_refl _⟩
        rw [hPo]
        refine x_PO5_L ?_ (x_fk_t (x_fk_10 (by decide) u1) (x_fk_t (x_fk_up (Or.inl rfl)) (x_fk_10 (by decide) w1))) w2
        unfold y_deed
        rw [e1]
        show y_bd (y_old a m N 4 (v 1 0 0) p.2) _ = _
        rw [e2]
        rfl
      | inr i =>
        obtain ⟨rfl, F2, G2, rfl, w1, w2, w3⟩ := x_PT_r e2 hpo
        have k2 := y_old_gt e2
        refine And.intro (fun _ => ?_) (fun c => absurd (show (1 : Int32) = 0 from c) (by decide))
        refine And.intro (x_ix_nI (by omega) (by omega)) ?_
        rw [nI_clamp (by omega)]
        have r3 : x_RC a m i.2 (x_up F2 42 k (F2 10 9)) G2 := x_RC_up (by decide) w2
        refine Exists.intro _ (And.intro (c_takeNumber (lo := 1) (hi := 99) (by decide) (by decide) hT r3) (And.intro (And.intro (Nat.zero_le _) (Nat.zero_le _)) (fun zq h' hpo => ?_)))
        have fr : x_fk 39 k f g (x_up F2 42 k (F2 10 9)) G2 := x_fk_t (x_fk_10 (by decide) u1) (x_fk_t (x_fk_up (Or.inl rfl)) (x_fk_t (x_fk_10 (by decide) w1) (x_fk_up (Or.inr (Or.inl rfl)))))
        cases e3 : y_nbr a m 1 99 i.2 with
        | inl e =>
          obtain ⟨rfl, F3, G3, rfl, p1, p2⟩ := x_PT_l e3 hpo
          refine And.intro ?_ ⟨Or.inl rfl, Nat.le_refl _, Nat.le_refl _⟩
          rw [hPo]
          refine x_PO5_L ?_ (x_fk_t fr (x_fk_10 (by decide) p1)) p2
          unfold y_deed
          rw [e1]
          show y_bd (y_old a m N 4 (v 1 0 0) p.2) _ = _
          rw [e2]
          show y_bd (y_nbr a m 1 99 i.2) _ = _
          rw [e3]
          rfl
        | inr x =>
          obtain ⟨rfl, F3, G3, rfl, p1, p2, p3⟩ := x_PT_r e3 hpo
          refine And.intro ?_ ⟨Or.inr rfl, Nat.le_refl _, Nat.le_refl _⟩
          rw [hPo]
          refine x_PO5_R (w := ((w, p.1, i.1, x.1, 0), x.2)) ?_ (x_fk_t fr (x_fk_10 (by decide) p1)) p2 ⟨fun _ => ⟨?_, ?_⟩, fun h => absurd h (by show ¬ (18 ≤ w ∧ w ≤ 20); omega), fun _ _ => p3⟩
          · unfold y_deed
            rw [e1]
            show y_bd (y_old a m N 4 (v 1 0 0) p.2) _ = _
            rw [e2]
            show y_bd (y_nbr a m 1 99 i.2) _ = _
            rw [e3]
            rfl
          · rw [p1.1 _ (by decide), x_up_k (by decide), w1.1 _ (by decide), x_up_s]
            exact u3
          · rw [p1.1 _ (by decide), x_up_s]
            exact w3
    refine And.intro (fun _ => ?_) (fun c => absurd (show (1 : Int32) = 0 from c) (by decide))
    refine And.intro (x_ix_nI (by omega) (by omega)) ?_
    rw [nI_clamp (by omega)]
    refine And.intro (fun _ => go) (fun c => ?_)
    have c : ¬ nI w = nI 12 := c
    rw [nI_eq (by omega) (by decide)] at c
    refine And.intro (fun c2 => absurd (show nI w = nI 13 by rw [nI_eq (by omega) (by decide)]; omega) c2) (fun _ => go)
theorem c_readDeedK_12_39 {w : Nat} (hw : w = 11 ∨ w = 14 ∨ w = 15) (hT : y_TP a m) (hq : q ≤ m) (hk : k < 60) (hR : x_RC a m q f g) (h0 : f 12 0 = nI (v 0 0 0)) (h2 : f 12 2 = nI (v 2 0 0)) (b0 : v 0 0 0 ≤ 4) (b2 : v 2 0 0 ≤ 5) (hN : y_NR (g 14) v N) : x_Ct 64 (d + 3) [.ref 610, .int (nI w), .int (nI k)] (f, g, x_HR 12 39, dm, n) (x_PO5 32 k a m f g (x_HR 12 39) dm n (y_deed a m N (v 2 0 0) (v 0 0 0) 0 w q)) := by
  obtain ⟨Po, hPo⟩ : ∃ Po : Option Value → xH → Prop, Po = x_PO5 32 k a m f g (x_HR 12 39) dm n (y_deed a m N (v 2 0 0) (v 0 0 0) 0 w q) := ⟨_, rfl⟩
  rw [← hPo]
  have c12 : ¬ nI w = nI 12 := by rw [nI_eq (by omega) (by decide)]; omega
  have c13 : ¬ nI w = nI 13 := by rw [nI_eq (by omega) (by decide)]; omega
  refine x_Ct_w (by decide) (Nat.le_of_ble_eq_true rfl) ok64 [] 6 ?_
  refine Exists.intro _ (And.intro (c_takeOldName_12_9 (N := N) (M := v 2 0 0) hT hq hR h2 b2 (y_NR_9 hN _)) (And.intro (And.intro (Nat.zero_le _) (Nat.zero_le _)) (fun zq h' hpo => ?_)))
  cases e1 : y_old a m N 9 (v 2 0 0) q with
  | inl e =>
    obtain ⟨rfl, F1, G1, rfl, u1, u2⟩ := x_PT_l e1 hpo
    refine And.intro (fun c => absurd rfl c) (fun _ => ?_)
    refine And.intro ?_ ⟨Or.inl rfl, Nat.le_refl _, Nat.le_refl _⟩
    rw [hPo]
    refine x_PO5_L ?_ (x_fk_10 (by decide) u1) u2
    unfold y_deed
    rw [e1]
    rfl
  | inr p =>
    obtain ⟨rfl, F1, G1, rfl, u1, u2, u3⟩ := x_PT_r e1 hpo
    have k1 := y_old_gt e1
    refine And.intro (fun _ => ?_) (fun c => absurd (show (1 : Int32) = 0 from c) (by decide))
    refine And.intro (x_ix_nI (by omega) (by omega)) ?_
    rw [nI_clamp (by omega)]
    refine And.intro (fun c => absurd c c12) (fun _ => ?_)
    refine And.intro (fun _ => ?_) (fun c => absurd c c13)
    refine And.intro (fun _ => ?_) (fun c => absurd rfl c)
    have r2 : x_RC a m p.2 (x_up F1 34 k (F1 10 9)) G1 := x_RC_up (by decide) u2
    refine Exists.intro _ (And.intro (c_takeOldName_12_0 (N := N) (M := v 0 0 0) hT k1.1.2 r2 (show x_up F1 34 k (F1 10 9) 12 0 = nI (v 0 0 0) by rw [x_up_k (by decide), u1.1 12 (by decide)]; exact h0) b0 (by rw [u1.2 14 (by decide)]; exact y_NR_0 hN _)) (And.intro (And.intro (Nat.zero_le _) (Nat.zero_le _)) (fun zq h' hpo => ?_)))
    cases e2 : y_old a m N 0 (v 0 0 0) p.2 with
    | inl e =>
      obtain ⟨rfl, F2, G2, rfl, w1, w2⟩ := x_PT_l e2 hpo
      refine And.intro (fun c => absurd rfl c) (fun _ => ?_)
      refine And.intro ?_ ⟨Or.inl rfl, Nat.le_refl _, Nat.le_refl _⟩
      rw [hPo]
      refine x_PO5_L ?_ (x_fk_t (x_fk_10 (by decide) u1) (x_fk_t (x_fk_up (Or.inl rfl)) (x_fk_10 (by decide) w1))) w2
      unfold y_deed
      rw [e1]
      show y_bd (y_old a m N 0 (v 0 0 0) p.2) _ = _
      rw [e2]
      rfl
    | inr i =>
      obtain ⟨rfl, F2, G2, rfl, w1, w2, w3⟩ := x_PT_r e2 hpo
      have k2 := y_old_gt e2
      refine And.intro (fun _ => ?_) (fun c => absurd (show (1 : Int32) = 0 from c) (by decide))
      refine And.intro (x_ix_nI (by omega) (by omega)) ?_
      rw [nI_clamp (by omega)]
      have r3 : x_RC a m i.2 (x_up F2 35 k (F2 10 9)) G2 := x_RC_up (by decide) w2
      refine Exists.intro _ (And.intro (c_takeNumber (lo := 1) (hi := 99) (by decide) (by decide) hT r3) (And.intro (And.intro (Nat.zero_le _) (Nat.zero_le _)) (fun zq h' hpo => ?_)))
      have fr : x_fk 32 k f g (x_up F2 35 k (F2 10 9)) G2 := x_fk_t (x_fk_10 (by decide) u1) (x_fk_t (x_fk_up (Or.inl rfl)) (x_fk_t (x_fk_10 (by decide) w1) (x_fk_up (Or.inr (Or.inl rfl)))))
      cases e3 : y_nbr a m 1 99 i.2 with
      | inl e =>
        obtain ⟨rfl, F3, G3, rfl, p1, p2⟩ := x_PT_l e3 hpo
        refine And.intro ?_ ⟨Or.inl rfl, Nat.le_refl _, Nat.le_refl _⟩
        rw [hPo]
        refine x_PO5_L ?_ (x_fk_t fr (x_fk_10 (by decide) p1)) p2
        unfold y_deed
        rw [e1]
        show y_bd (y_old a m N 0 (v 0 0 0) p.2) _ = _
        rw [e2]
        show y_bd (y_nbr a m 1 99 i.2) _ = _
        rw [e3]
        rfl
      | inr x =>
        obtain ⟨rfl, F3, G3, rfl, p1, p2, p3⟩ := x_PT_r e3 hpo
        refine And.intro ?_ ⟨Or.inr rfl, Nat.le_refl _, Nat.le_refl _⟩
        rw [hPo]
        refine x_PO5_R (w := ((w, p.1, i.1, x.1, 0), x.2)) ?_ (x_fk_t fr (x_fk_10 (by decide) p1)) p2 ⟨fun _ => ⟨?_, ?_⟩, fun h => absurd h (by show ¬ (18 ≤ w ∧ w ≤ 20); omega), fun _ _ => p3⟩
        · unfold y_deed
          rw [e1]
          show y_bd (y_old a m N 0 (v 0 0 0) p.2) _ = _
          rw [e2]
          show y_bd (y_nbr a m 1 99 i.2) _ = _
          rw [e3]
          rfl
        · rw [p1.1 _ (by decide), x_up_k (by decide), w1.1 _ (by decide), x_up_s]
          exact u3
        · rw [p1.1 _ (by decide), x_up_s]
          exact w3
theorem c_readDeedG_12_39 {w : Nat} (hw : w = 12 ∨ w = 13) (hT : y_TP a m) (hq : q ≤ m) (hk : k < 60) (hR : x_RC a m q f g) (h0 : f 12 1 = nI (v 1 0 0)) (h2 : f 12 2 = nI (v 2 0 0)) (b0 : v 1 0 0 ≤ 5) (b2 : v 2 0 0 ≤ 5) (hN : y_NR (g 14) v N) : x_Ct 64 (d + 3) [.ref 610, .int (nI w), .int (nI k)] (f, g, x_HR 12 39, dm, n) (x_PO5 32 k a m f g (x_HR 12 39) dm n (y_deed a m N (v 2 0 0) (v 1 0 0) 4 w q)) := by
  obtain ⟨Po, hPo⟩ : ∃ Po : Option Value → xH → Prop, Po = x_PO5 32 k a m f g (x_HR 12 39) dm n (y_deed a m N (v 2 0 0) (v 1 0 0) 4 w q) := ⟨_, rfl⟩
  rw [← hPo]
  refine x_Ct_w (by decide) (Nat.le_of_ble_eq_true rfl) ok64 [46, 52] 6 ?_
  refine Exists.intro _ (And.intro (c_takeOldName_12_9 (N := N) (M := v 2 0 0) hT hq hR h2 b2 (y_NR_9 hN _)) (And.intro (And.intro (Nat.zero_le _) (Nat.zero_le _)) (fun zq h' hpo => ?_)))
  cases e1 : y_old a m N 9 (v 2 0 0) q with
  | inl e =>
    obtain ⟨rfl, F1, G1, rfl, u1, u2⟩ := x_PT_l e1 hpo
    refine And.intro (fun c => absurd rfl c) (fun _ => ?_)
    refine And.intro ?_ ⟨Or.inl rfl, Nat.le_refl _, Nat.le_refl _⟩
    rw [hPo]
    refine x_PO5_L ?_ (x_fk_10 (by decide) u1) u2
    unfold y_deed
    rw [e1]
    rfl
  | inr p =>
    obtain ⟨rfl, F1, G1, rfl, u1, u2, u3⟩ := x_PT_r e1 hpo
    have k1 := y_old_gt e1
    have go : x_J 64 (d + 3) Po 46 [some (.ref 610), some (.int (nI w)), some (.int (nI k)), none] [] (x_up F1 34 k (F1 10 9), G1, x_HR 12 39, dm, n) 0 0 := by
      refine x_wp_ok ok64 [] 6 ?_
      refine And.intro (fun c => absurd (show (1 : Int32) = 0 from c) (by decide)) (fun _ => ?_)
      have r2 : x_RC a m p.2 (x_up F1 34 k (F1 10 9)) G1 := x_RC_up (by decide) u2
      refine Exists.intro _ (And.intro (c_takeOldName_12_4 (N := N) (M := v 1 0 0) hT k1.1.2 r2 (show x_up F1 34 k (F1 10 9) 12 1 = nI (v 1 0 0) by rw [x_up_k (by decide), u1.1 12 (by decide)]; exact h0) b0 (by rw [u1.2 14 (by decide)]; exact y_NR_4 hN _)) (And.intro (And.intro (Nat.zero_le _) (Nat.zero_le _)) (fun zq h' hpo => ?_)))
      cases e2 : y_old a m N 4 (v 1 0 0) p.2 with
      | inl e =>
        obtain ⟨rfl, F2, G2, rfl, w1, w2⟩ := x_PT_l e2 hpo
        refine And.intro (fun c => absurd rfl c) (fun _ => ?_)
        refine And.intro ?_ ⟨Or.inl rfl, Nat.le_refl _, Nat.le_refl _⟩
        rw [hPo]
        refine x_PO5_L ?_ (x_fk_t (x_fk_10 (by decide) u1) (x_fk_t (x_fk_up (Or.inl rfl)) (x_fk_10 (by decide) w1))) w2
        unfold y_deed
        rw [e1]
        show y_bd (y_old a m N 4 (v 1 0 0) p.2) _ = _
        rw [e2]
        rfl
      | inr i =>
        obtain ⟨rfl, F2, G2, rfl, w1, w2, w3⟩ := x_PT_r e2 hpo
        have k2 := y_old_gt e2
        refine And.intro (fun _ => ?_) (fun c => absurd (show (1 : Int32) = 0 from c) (by decide))
        refine And.intro (x_ix_nI (by omega) (by omega)) ?_
        rw [nI_clamp (by omega)]
        have r3 : x_RC a m i.2 (x_up F2 35 k (F2 10 9)) G2 := x_RC_up (by decide) w2
        refine Exists.intro _ (And.intro (c_takeNumber (lo := 1) (hi := 99) (by decide) (by decide) hT r3) (And.intro (And.intro (Nat.zero_le _) (Nat.zero_le _)) (fun zq h' hpo => ?_)))
        have fr : x_fk 32 k f g (x_up F2 35 k (F2 10 9)) G2 := x_fk_t (x_fk_10 (by decide) u1) (x_fk_t (x_fk_up (Or.inl rfl)) (x_fk_t (x_fk_10 (by decide) w1) (x_fk_up (Or.inr (Or.inl rfl)))))
        cases e3 : y_nbr a m 1 99 i.2 with
        | inl e =>
          obtain ⟨rfl, F3, G3, rfl, p1, p2⟩ := x_PT_l e3 hpo
          refine And.intro ?_ ⟨Or.inl rfl, Nat.le_refl _, Nat.le_refl _⟩
          rw [hPo]
          refine x_PO5_L ?_ (x_fk_t fr (x_fk_10 (by decide) p1)) p2
          unfold y_deed
          rw [e1]
          show y_bd (y_old a m N 4 (v 1 0 0) p.2) _ = _
          rw [e2]
          show y_bd (y_nbr a m 1 99 i.2) _ = _
          rw [e3]
          rfl
        | inr x =>
          obtain ⟨rfl, F3, G3, rfl, p1, p2, p3⟩ := x_PT_r e3 hpo
          refine And.intro ?_ ⟨Or.inr rfl, Nat.le_refl _, Nat.le_refl _⟩
          rw [hPo]
          refine x_PO5_R (w := ((w, p.1, i.1, x.1, 0), x.2)) ?_ (x_fk_t fr (x_fk_10 (by decide) p1)) p2 ⟨fun _ => ⟨?_, ?_⟩, fun h => absurd h (by show ¬ (18 ≤ w ∧ w ≤ 20); omega), fun _ _ => p3⟩
          · unfold y_deed
            rw [e1]
            show y_bd (y_old a m N 4 (v 1 0 0) p.2) _ = _
            rw [e2]
            show y_bd (y_nbr a m 1 99 i.2) _ = _
            rw [e3]
            rfl
          · rw [p1.1 _ (by decide), x_up_k (by decide), w1.1 _ (by decide), x_up_s]
            exact u3
          · rw [p1.1 _ (by decide), x_up_s]
            exact w3
    refine And.intro (fun _ => ?_) (fun c => absurd (show (1 : Int32) = 0 from c) (by decide))
    refine And.intro (x_ix_nI (by omega) (by omega)) ?_
    rw [nI_clamp (by omega)]
    refine And.intro (fun _ => go) (fun c => ?_)
    have c : ¬ nI w = nI 12 := c
    rw [nI_eq (by omega) (by decide)] at c
    refine And.intro (fun c2 => absurd (show nI w = nI 13 by rw [nI_eq (by omega) (by decide)]; omega) c2) (fun _ => go)
theorem c_readDeedK_22_32 {w : Nat} (hw : w = 11 ∨ w = 14 ∨ w = 15) (hT : y_TP a m) (hq : q ≤ m) (hk : k < 60) (hR : x_RC a m q f g) (h0 : f 22 0 = nI (v 0 0 0)) (h2 : f 22 2 = nI (v 2 0 0)) (b0 : v 0 0 0 ≤ 4) (b2 : v 2 0 0 ≤ 5) (hN : y_NR (g 24) v N) : x_Ct 64 (d + 3) [.ref 610, .int (nI w), .int (nI k)] (f, g, x_HR 22 32, dm, n) (x_PO5 39 k a m f g (x_HR 22 32) dm n (y_deed a m N (v 2 0 0) (v 0 0 0) 0 w q)) := by
  obtain ⟨Po, hPo⟩ : ∃ Po : Option Value → xH → Prop, Po = x_PO5 39 k a m f g (x_HR 22 32) dm n (y_deed a m N (v 2 0 0) (v 0 0 0) 0 w q) := ⟨_, rfl⟩
  rw [← hPo]
  have c12 : ¬ nI w = nI 12 := by rw [nI_eq (by omega) (by decide)]; omega
  have c13 : ¬ nI w = nI 13 := by rw [nI_eq (by omega) (by decide)]; omega
  refine x_Ct_w (by decide) (Nat.le_of_ble_eq_true rfl) ok64 [] 6 ?_
  refine Exists.intro _ (And.intro (c_takeOldName_22_9 (N := N) (M := v 2 0 0) hT hq hR h2 b2 (y_NR_9 hN _)) (And.intro (And.intro (Nat.zero_le _) (Nat.zero_le _)) (fun zq h' hpo => ?_)))
  cases e1 : y_old a m N 9 (v 2 0 0) q with
  | inl e =>
    obtain ⟨rfl, F1, G1, rfl, u1, u2⟩ := x_PT_l e1 hpo
    refine And.intro (fun c => absurd rfl c) (fun _ => ?_)
    refine And.intro ?_ ⟨Or.inl rfl, Nat.le_refl _, Nat.le_refl _⟩
    rw [hPo]
    refine x_PO5_L ?_ (x_fk_10 (by decide) u1) u2
    unfold y_deed
    rw [e1]
    rfl
  | inr p =>
    obtain ⟨rfl, F1, G1, rfl, u1, u2, u3⟩ := x_PT_r e1 hpo
    have k1 := y_old_gt e1
    refine And.intro (fun _ => ?_) (fun c => absurd (show (1 : Int32) = 0 from c) (by decide))
    refine And.intro (x_ix_nI (by omega) (by omega)) ?_
    rw [nI_clamp (by omega)]
    refine And.intro (fun c => absurd c c12) (fun _ => ?_)
    refine And.intro (fun _ => ?_) (fun c => absurd c c13)
    refine And.intro (fun _ => ?_) (fun c => absurd rfl c)
    have r2 : x_RC a m p.2 (x_up F1 41 k (F1 10 9)) G1 := x_RC_up (by decide) u2
    refine Exists.intro _ (And.intro (c_takeOldName_22_0 (N := N) (M := v 0 0 0) hT k1.1.2 r2 (show x_up F1 41 k (F1 10 9) 22 0 = nI (v 0 0 0) by rw [x_up_k (by decide), u1.1 22 (by decide)]; exact h0) b0 (by rw [u1.2 24 (by decide)]; exact y_NR_0 hN _)) (And.intro (And.intro (Nat.zero_le _) (Nat.zero_le _)) (fun zq h' hpo => ?_)))
    cases e2 : y_old a m N 0 (v 0 0 0) p.2 with
    | inl e =>
      obtain ⟨rfl, F2, G2, rfl, w1, w2⟩ := x_PT_l e2 hpo
      refine And.intro (fun c => absurd rfl c) (fun _ => ?_)
      refine And.intro ?_ ⟨Or.inl rfl, Nat.le_refl _, Nat.le_refl _⟩
      rw [hPo]
      refine x_PO5_L ?_ (x_fk_t (x_fk_10 (by decide) u1) (x_fk_t (x_fk_up (Or.inl rfl)) (x_fk_10 (by decide) w1))) w2
      unfold y_deed
      rw [e1]
      show y_bd (y_old a m N 0 (v 0 0 0) p.2) _ = _
      rw [e2]
      rfl
    | inr i =>
      obtain ⟨rfl, F2, G2, rfl, w1, w2, w3⟩ := x_PT_r e2 hpo
      have k2 := y_old_gt e2
      refine And.intro (fun _ => ?_) (fun c => absurd (show (1 : Int32) = 0 from c) (by decide))
      refine And.intro (x_ix_nI (by omega) (by omega)) ?_
      rw [nI_clamp (by omega)]
      have r3 : x_RC a m i.2 (x_up F2 42 k (F2 10 9)) G2 := x_RC_up (by decide) w2
      refine Exists.intro _ (And.intro (c_takeNumber (lo := 1) (hi := 99) (by decide) (by decide) hT r3) (And.intro (And.intro (Nat.zero_le _) (Nat.zero_le _)) (fun zq h' hpo => ?_)))
      have fr : x_fk 39 k f g (x_up F2 42 k (F2 10 9)) G2 := x_fk_t (x_fk_10 (by decide) u1) (x_fk_t (x_fk_up (Or.inl rfl)) (x_fk_t (x_fk_10 (by decide) w1) (x_fk_up (Or.inr (Or.inl rfl)))))
      cases e3 : y_nbr a m 1 99 i.2 with
      | inl e =>
        obtain ⟨rfl, F3, G3, rfl, p1, p2⟩ := x_PT_l e3 hpo
        refine And.intro ?_ ⟨Or.inl rfl, Nat.le_refl _, Nat.le_refl _⟩
        rw [hPo]
        refine x_PO5_L ?_ (x_fk_t fr (x_fk_10 (by decide) p1)) p2
        unfold y_deed
        rw [e1]
        show y_bd (y_old a m N 0 (v 0 0 0) p.2) _ = _
        rw [e2]
        show y_bd (y_nbr a m 1 99 i.2) _ = _
        rw [e3]
        rfl
      | inr x =>
        obtain ⟨rfl, F3, G3, rfl, p1, p2, p3⟩ := x_PT_r e3 hpo
        refine And.intro ?_ ⟨Or.inr rfl, Nat.le_refl _, Nat.le_refl _⟩
        rw [hPo]
        refine x_PO5_R (w := ((w, p.1, i.1, x.1, 0), x.2)) ?_ (x_fk_t fr (x_fk_10 (by decide) p1)) p2 ⟨fun _ => ⟨?_, ?_⟩, fun h => absurd h (by show ¬ (18 ≤ w ∧ w ≤ 20); omega), fun _ _ => p3⟩
        · unfold y_deed
          rw [e1]
          show y_bd (y_old a m N 0 (v 0 0 0) p.2) _ = _
          rw [e2]
          show y_bd (y_nbr a m 1 99 i.2) _ = _
          rw [e3]
          rfl
        · rw [p1.1 _ (by decide), x_up_k (by decide), w1.1 _ (by decide), x_up_s]
          exact u3
        · rw [p1.1 _ (by decide), x_up_s]
          exact w3
theorem c_readDeedG_22_32 {w : Nat} (hw : w = 12 ∨ w = 13) (hT : y_TP a m) (hq : q ≤ m) (hk : k < 60) (hR : x_RC a m q f g) (h0 : f 22 1 = nI (v 1 0 0)) (h2 : f 22 2 = nI (v 2 0 0)) (b0 : v 1 0 0 ≤ 5) (b2 : v 2 0 0 ≤ 5) (hN : y_NR (g 24) v N) : x_Ct 64 (d + 3) [.ref 610, .int (nI w), .int (nI k)] (f, g, x_HR 22 32, dm, n) (x_PO5 39 k a m f g (x_HR 22 32) dm n (y_deed a m N (v 2 0 0) (v 1 0 0) 4 w q)) := by
  obtain ⟨Po, hPo⟩ : ∃ Po : Option Value → xH → Prop, Po = x_PO5 39 k a m f g (x_HR 22 32) dm n (y_deed a m N (v 2 0 0) (v 1 0 0) 4 w q) := ⟨_, rfl⟩
  rw [← hPo]
  refine x_Ct_w (by decide) (Nat.le_of_ble_eq_true rfl) ok64 [46, 52] 6 ?_
  refine Exists.intro _ (And.intro (c_takeOldName_22_9 (N := N) (M := v 2 0 0) hT hq hR h2 b2 (y_NR_9 hN _)) (And.intro (And.intro (Nat.zero_le _) (Nat.zero_le _)) (fun zq h' hpo => ?_)))
  cases e1 : y_old a m N 9 (v 2 0 0) q with
  | inl e =>
    obtain ⟨rfl, F1, G1, rfl, u1, u2⟩ := x_PT_l e1 hpo
    refine And.intro (fun c => absurd rfl c) (fun _ => ?_)
    refine And.intro ?_ ⟨Or.inl rfl, Nat.le_refl _, Nat.le_refl _⟩
    rw [hPo]
    refine x_PO5_L ?_ (x_fk_10 (by decide) u1) u2
    unfold y_deed
    rw [e1]
    rfl
  | inr p =>
    obtain ⟨rfl, F1, G1, rfl, u1, u2, u3⟩ := x_PT_r e1 hpo
    have k1 := y_old_gt e1
    have go : x_J 64 (d + 3) Po 46 [some (.ref 610), some (.int (nI w)), some (.int (nI k)), none] [] (x_up F1 41 k (F1 10 9), G1, x_HR 22 32, dm, n) 0 0 := by
      refine x_wp_ok ok64 [] 6 ?_
      refine And.intro (fun c => absurd (show (1 : Int32) = 0 from c) (by decide)) (fun _ => ?_)
      have r2 : x_RC a m p.2 (x_up F1 41 k (F1 10 9)) G1 := x_RC_up (by decide) u2
      refine Exists.intro _ (And.intro (c_takeOldName_22_4 (N := N) (M := v 1 0 0) hT k1.1.2 r2 (show x_up F1 41 k (F1 10 9) 22 1 = nI (v 1 0 0) by rw [x_up_k (by decide), u1.1 22 (by decide)]; exact h0) b0 (by rw [u1.2 24 (by decide)]; exact y_NR_4 hN _)) (And.intro (And.intro (Nat.zero_le _) (Nat.zero_le _)) (fun zq h' hpo => ?_)))
      cases e2 : y_old a m N 4 (v 1 0 0) p.2 with
      | inl e =>
        obtain ⟨rfl, F2, G2, rfl, w1, w2⟩ := x_PT_l e2 hpo
        refine And.intro (fun c => absurd rfl c) (fun _ => ?_)
        refine And.intro ?_ ⟨Or.inl rfl, Nat.le_refl _, Nat.le_refl _⟩
        rw [hPo]
        refine x_PO5_L ?_ (x_fk_t (x_fk_10 (by decide) u1) (x_fk_t (x_fk_up (Or.inl rfl)) (x_fk_10 (by decide) w1))) w2
        unfold y_deed
        rw [e1]
        show y_bd (y_old a m N 4 (v 1 0 0) p.2) _ = _
        rw [e2]
        rfl
      | inr i =>
        obtain ⟨rfl, F2, G2, rfl, w1, w2, w3⟩ := x_PT_r e2 hpo
        have k2 := y_old_gt e2
        refine And.intro (fun _ => ?_) (fun c => absurd (show (1 : Int32) = 0 from c) (by decide))
        refine And.intro (x_ix_nI (by omega) (by omega)) ?_
        rw [nI_clamp (by omega)]
        have r3 : x_RC a m i.2 (x_up F2 42 k (F2 10 9)) G2 := x_RC_up (by decide) w2
        refine Exists.intro _ (And.intro (c_takeNumber (lo := 1) (hi := 99) (by decide) (by decide) hT r3) (And.intro (And.intro (Nat.zero_le _) (Nat.zero_le _)) (fun zq h' hpo => ?_)))
        have fr : x_fk 39 k f g (x_up F2 42 k (F2 10 9)) G2 := x_fk_t (x_fk_10 (by decide) u1) (x_fk_t (x_fk_up (Or.inl rfl)) (x_fk_t (x_fk_10 (by decide) w1) (x_fk_up (Or.inr (Or.inl rfl)))))
        cases e3 : y_nbr a m 1 99 i.2 with
        | inl e =>
          obtain ⟨rfl, F3, G3, rfl, p1, p2⟩ := x_PT_l e3 hpo
          refine And.intro ?_ ⟨Or.inl rfl, Nat.le_refl _, Nat.le_refl _⟩
          rw [hPo]
          refine x_PO5_L ?_ (x_fk_t fr (x_fk_10 (by decide) p1)) p2
          unfold y_deed
          rw [e1]
          show y_bd (y_old a m N 4 (v 1 0 0) p.2) _ = _
          rw [e2]
          show y_bd (y_nbr a m 1 99 i.2) _ = _
          rw [e3]
          rfl
        | inr x =>
          obtain ⟨rfl, F3, G3, rfl, p1, p2, p3⟩ := x_PT_r e3 hpo
          refine And.intro ?_ ⟨Or.inr rfl, Nat.le_refl _, Nat.le_refl _⟩
          rw [hPo]
          refine x_PO5_R (w := ((w, p.1, i.1, x.1, 0), x.2)) ?_ (x_fk_t fr (x_fk_10 (by decide) p1)) p2 ⟨fun _ => ⟨?_, ?_⟩, fun h => absurd h (by show ¬ (18 ≤ w ∧ w ≤ 20); omega), fun _ _ => p3⟩
          · unfold y_deed
            rw [e1]
            show y_bd (y_old a m N 4 (v 1 0 0) p.2) _ = _
            rw [e2]
            show y_bd (y_nbr a m 1 99 i.2) _ = _
            rw [e3]
            rfl
          · rw [p1.1 _ (by decide), x_up_k (by decide), w1.1 _ (by decide), x_up_s]
            exact u3
          · rw [p1.1 _ (by decide), x_up_s]
            exact w3
    refine And.intro (fun _ => ?_) (fun c => absurd (show (1 : Int32) = 0 from c) (by decide))
    refine And.intro (x_ix_nI (by omega) (by omega)) ?_
    rw [nI_clamp (by omega)]
    refine And.intro (fun _ => go) (fun c => ?_)
    have c : ¬ nI w = nI 12 := c
    rw [nI_eq (by omega) (by decide)] at c
    refine And.intro (fun c2 => absurd (show nI w = nI 13 by rw [nI_eq (by omega) (by decide)]; omega) c2) (fun _ => go)
theorem c_readDeedK_22_39 {w : Nat} (hw : w = 11 ∨ w = 14 ∨ w = 15) (hT : y_TP a m) (hq : q ≤ m) (hk : k < 60) (hR : x_RC a m q f g) (h0 : f 22 0 = nI (v 0 0 0)) (h2 : f 22 2 = nI (v 2 0 0)) (b0 : v 0 0 0 ≤ 4) (b2 : v 2 0 0 ≤ 5) (hN : y_NR (g 24) v N) : x_Ct 64 (d + 3) [.ref 610, .int (nI w), .int (nI k)] (f, g, x_HR 22 39, dm, n) (x_PO5 32 k a m f g (x_HR 22 39) dm n (y_deed a m N (v 2 0 0) (v 0 0 0) 0 w q)) := by
  obtain ⟨Po, hPo⟩ : ∃ Po : Option Value → xH → Prop, Po = x_PO5 32 k a m f g (x_HR 22 39) dm n (y_deed a m N (v 2 0 0) (v 0 0 0) 0 w q) := ⟨_, rfl⟩
  rw [← hPo]
  have c12 : ¬ nI w = nI 12 := by rw [nI_eq (by omega) (by decide)]; omega
  have c13 : ¬ nI w = nI 13 := by rw [nI_eq (by omega) (by decide)]; omega
  refine x_Ct_w (by decide) (Nat.le_of_ble_eq_true rfl) ok64 [] 6 ?_
  refine Exists.intro _ (And.intro (c_takeOldName_22_9 (N := N) (M := v 2 0 0) hT hq hR h2 b2 (y_NR_9 hN _)) (And.intro (And.intro (Nat.zero_le _) (Nat.zero_le _)) (fun zq h' hpo => ?_)))
  cases e1 : y_old a m N 9 (v 2 0 0) q with
  | inl e =>
    obtain ⟨rfl, F1, G1, rfl, u1, u2⟩ := x_PT_l e1 hpo
    refine And.intro (fun c => absurd rfl c) (fun _ => ?_)
    refine And.intro ?_ ⟨Or.inl rfl, Nat.le_refl _, Nat.le_refl _⟩
    rw [hPo]
    refine x_PO5_L ?_ (x_fk_10 (by decide) u1) u2
    unfold y_deed
    rw [e1]
    rfl
  | inr p =>
    obtain ⟨rfl, F1, G1, rfl, u1, u2, u3⟩ := x_PT_r e1 hpo
    have k1 := y_old_gt e1
    refine And.intro (fun _ => ?_) (fun c => absurd (show (1 : Int32) = 0 from c) (by decide))
    refine And.intro (x_ix_nI (by omega) (by omega)) ?_
    rw [nI_clamp (by omega)]
    refine And.intro (fun c => absurd c c12) (fun _ => ?_)
    refine And.intro (fun _ => ?_) (fun c => absurd c c13)
    refine And.intro (fun _ => ?_) (fun c => absurd rfl c)
    have r2 : x_RC a m p.2 (x_up F1 34 k (F1 10 9)) G1 := x_RC_up (by decide) u2
    refine Exists.intro _ (And.intro (c_takeOldName_22_0 (N := N) (M := v 0 0 0) hT k1.1.2 r2 (show x_up F1 34 k (F1 10 9) 22 0 = nI (v 0 0 0) by rw [x_up_k (by decide), u1.1 22 (by decide)]; exact h0) b0 (by rw [u1.2 24 (by decide)]; exact y_NR_0 hN _)) (And.intro (And.intro (Nat.zero_le _) (Nat.zero_le _)) (fun zq h' hpo => ?_)))
    cases e2 : y_old a m N 0 (v 0 0 0) p.2 with
    | inl e =>
      obtain ⟨rfl, F2, G2, rfl, w1, w2⟩ := x_PT_l e2 hpo
      refine And.intro (fun c => absurd rfl c) (fun _ => ?_)
      refine And.intro ?_ ⟨Or.inl rfl, Nat.le_refl _, Nat.le_refl _⟩
      rw [hPo]
      refine x_PO5_L ?_ (x_fk_t (x_fk_10 (by decide) u1) (x_fk_t (x_fk_up (Or.inl rfl)) (x_fk_10 (by decide) w1))) w2
      unfold y_deed
      rw [e1]
      show y_bd (y_old a m N 0 (v 0 0 0) p.2) _ = _
      rw [e2]
      rfl
    | inr i =>
      obtain ⟨rfl, F2, G2, rfl, w1, w2, w3⟩ := x_PT_r e2 hpo
      have k2 := y_old_gt e2
      refine And.intro (fun _ => ?_) (fun c => absurd (show (1 : Int32) = 0 from c) (by decide))
      refine And.intro (x_ix_nI (by omega) (by omega)) ?_
      rw [nI_clamp (by omega)]
      have r3 : x_RC a m i.2 (x_up F2 35 k (F2 10 9)) G2 := x_RC_up (by decide) w2
      refine Exists.intro _ (And.intro (c_takeNumber (lo := 1) (hi := 99) (by decide) (by decide) hT r3) (And.intro (And.intro (Nat.zero_le _) (Nat.zero_le _)) (fun zq h' hpo => ?_)))
      have fr : x_fk 32 k f g (x_up F2 35 k (F2 10 9)) G2 := x_fk_t (x_fk_10 (by decide) u1) (x_fk_t (x_fk_up (Or.inl rfl)) (x_fk_t (x_fk_10 (by decide) w1) (x_fk_up (Or.inr (Or.inl rfl)))))
      cases e3 : y_nbr a m 1 99 i.2 with
      | inl e =>
        obtain ⟨rfl, F3, G3, rfl, p1, p2⟩ := x_PT_l e3 hpo
        refine And.intro ?_ ⟨Or.inl rfl, Nat.le_refl _, Nat.le_refl _⟩
        rw [hPo]
        refine x_PO5_L ?_ (x_fk_t fr (x_fk_10 (by decide) p1)) p2
        unfold y_deed
        rw [e1]
        show y_bd (y_old a m N 0 (v 0 0 0) p.2) _ = _
        rw [e2]
        show y_bd (y_nbr a m 1 99 i.2) _ = _
        rw [e3]
        rfl
      | inr x =>
        obtain ⟨rfl, F3, G3, rfl, p1, p2, p3⟩ := x_PT_r e3 hpo
        refine And.intro ?_ ⟨Or.inr rfl, Nat.le_refl _, Nat.le_refl _⟩
        rw [hPo]
        refine x_PO5_R (w := ((w, p.1, i.1, x.1, 0), x.2)) ?_ (x_fk_t fr (x_fk_10 (by decide) p1)) p2 ⟨fun _ => ⟨?_, ?_⟩, fun h => absurd h (by show ¬ (18 ≤ w ∧ w ≤ 20); omega), fun _ _ => p3⟩
        · unfold y_deed
          rw [e1]
          show y_bd (y_old a m N 0 (v 0 0 0) p.2) _ = _
          rw [e2]
          show y_bd (y_nbr a m 1 99 i.2) _ = _
          rw [e3]
          rfl
        · rw [p1.1 _ (by decide), x_up_k (by decide), w1.1 _ (by decide), x_up_s]
          exact u3
        · rw [p1.1 _ (by decide), x_up_s]
          exact w3
theorem c_readDeedG_22_39 {w : Nat} (hw : w = 12 ∨ w = 13) (hT : y_TP a m) (hq : q ≤ m) (hk : k < 60) (hR : x_RC a m q f g) (h0 : f 22 1 = nI (v 1 0 0)) (h2 : f 22 2 = nI (v 2 0 0)) (b0 : v 1 0 0 ≤ 5) (b2 : v 2 0 0 ≤ 5) (hN : y_NR (g 24) v N) : x_Ct 64 (d + 3) [.ref 610, .int (nI w), .int (nI k)] (f, g, x_HR 22 39, dm, n) (x_PO5 32 k a m f g (x_HR 22 39) dm n (y_deed a m N (v 2 0 0) (v 1 0 0) 4 w q)) := by
  obtain ⟨Po, hPo⟩ : ∃ Po : Option Value → xH → Prop, Po = x_PO5 32 k a m f g (x_HR 22 39) dm n (y_deed a m N (v 2 0 0) (v 1 0 0) 4 w q) := ⟨_, rfl⟩
  rw [← hPo]
  refine x_Ct_w (by decide) (Nat.le_of_ble_eq_true rfl) ok64 [46, 52] 6 ?_
  refine Exists.intro _ (And.intro (c_takeOldName_22_9 (N := N) (M := v 2 0 0) hT hq hR h2 b2 (y_NR_9 hN _)) (And.intro (And.intro (Nat.zero_le _) (Nat.zero_le _)) (fun zq h' hpo => ?_)))
  cases e1 : y_old a m N 9 (v 2 0 0) q with
  | inl e =>
    obtain ⟨rfl, F1, G1, rfl, u1, u2⟩ := x_PT_l e1 hpo
    refine And.intro (fun c => absurd rfl c) (fun _ => ?_)
    refine And.intro ?_ ⟨Or.inl rfl, Nat.le_refl _, Nat.le_refl _⟩
    rw [hPo]
    refine x_PO5_L ?_ (x_fk_10 (by decide) u1) u2
    unfold y_deed
    rw [e1]
    rfl
  | inr p =>
    obtain ⟨rfl, F1, G1, rfl, u1, u2, u3⟩ := x_PT_r e1 hpo
    have k1 := y_old_gt e1
    have go : x_J 64 (d + 3) Po 46 [some (.ref 610), some (.int (nI w)), some (.int (nI k)), none] [] (x_up F1 34 k (F1 10 9), G1, x_HR 22 39, dm, n) 0 0 := by
      refine x_wp_ok ok64 [] 6 ?_
      refine And.intro (fun c => absurd (show (1 : Int32) = 0 from c) (by decide)) (fun _ => ?_)
      have r2 : x_RC a m p.2 (x_up F1 34 k (F1 10 9)) G1 := x_RC_up (by decide) u2
      refine Exists.intro _ (And.intro (c_takeOldName_22_4 (N := N) (M := v 1 0 0) hT k1.1.2 r2 (show x_up F1 34 k (F1 10 9) 22 1 = nI (v 1 0 0) by rw [x_up_k (by decide), u1.1 22 (by decide)]; exact h0) b0 (by rw [u1.2 24 (by decide)]; exact y_NR_4 hN _)) (And.intro (And.intro (Nat.zero_le _) (Nat.zero_le _)) (fun zq h' hpo => ?_)))
      cases e2 : y_old a m N 4 (v 1 0 0) p.2 with
      | inl e =>
        obtain ⟨rfl, F2, G2, rfl, w1, w2⟩ := x_PT_l e2 hpo
        refine And.intro (fun c => absurd rfl c) (fun _ => ?_)
        refine And.intro ?_ ⟨Or.inl rfl, Nat.le_refl _, Nat.le_refl _⟩
        rw [hPo]
        refine x_PO5_L ?_ (x_fk_t (x_fk_10 (by decide) u1) (x_fk_t (x_fk_up (Or.inl rfl)) (x_fk_10 (by decide) w1))) w2
        unfold y_deed
        rw [e1]
        show y_bd (y_old a m N 4 (v 1 0 0) p.2) _ = _
        rw [e2]
        rfl
      | inr i =>
        obtain ⟨rfl, F2, G2, rfl, w1, w2, w3⟩ := x_PT_r e2 hpo
        have k2 := y_old_gt e2
        refine And.intro (fun _ => ?_) (fun c => absurd (show (1 : Int32) = 0 from c) (by decide))
        refine And.intro (x_ix_nI (by omega) (by omega)) ?_
        rw [nI_clamp (by omega)]
        have r3 : x_RC a m i.2 (x_up F2 35 k (F2 10 9)) G2 := x_RC_up (by decide) w2
        refine Exists.intro _ (And.intro (c_takeNumber (lo := 1) (hi := 99) (by decide) (by decide) hT r3) (And.intro (And.intro (Nat.zero_le _) (Nat.zero_le _)) (fun zq h' hpo => ?_)))
        have fr : x_fk 32 k f g (x_up F2 35 k (F2 10 9)) G2 := x_fk_t (x_fk_10 (by decide) u1) (x_fk_t (x_fk_up (Or.inl rfl)) (x_fk_t (x_fk_10 (by decide) w1) (x_fk_up (Or.inr (Or.inl rfl)))))
        cases e3 : y_nbr a m 1 99 i.2 with
        | inl e =>
          obtain ⟨rfl, F3, G3, rfl, p1, p2⟩ := x_PT_l e3 hpo
          refine And.intro ?_ ⟨Or.inl rfl, Nat.le_refl _, Nat.le_refl _⟩
          rw [hPo]
          refine x_PO5_L ?_ (x_fk_t fr (x_fk_10 (by decide) p1)) p2
          unfold y_deed
          rw [e1]
          show y_bd (y_old a m N 4 (v 1 0 0) p.2) _ = _
          rw [e2]
          show y_bd (y_nbr a m 1 99 i.2) _ = _
          rw [e3]
          rfl
        | inr x =>
          obtain ⟨rfl, F3, G3, rfl, p1, p2, p3⟩ := x_PT_r e3 hpo
          refine And.intro ?_ ⟨Or.inr rfl, Nat.le_refl _, Nat.le_refl _⟩
          rw [hPo]
          refine x_PO5_R (w := ((w, p.1, i.1, x.1, 0), x.2)) ?_ (x_fk_t fr (x_fk_10 (by decide) p1)) p2 ⟨fun _ => ⟨?_, ?_⟩, fun h => absurd h (by show ¬ (18 ≤ w ∧ w ≤ 20); omega), fun _ _ => p3⟩
          · unfold y_deed
            rw [e1]
            show y_bd (y_old a m N 4 (v 1 0 0) p.2) _ = _
            rw [e2]
            show y_bd (y_nbr a m 1 99 i.2) _ = _
            rw [e3]
            rfl
          · rw [p1.1 _ (by decide), x_up_k (by decide), w1.1 _ (by decide), x_up_s]
            exact u3
          · rw [p1.1 _ (by decide), x_up_s]
            exact w3
    refine And.intro (fun _ => ?_) (fun c => absurd (show (1 : Int32) = 0 from c) (by decide))
    refine And.intro (x_ix_nI (by omega) (by omega)) ?_
    rw [nI_clamp (by omega)]
    refine And.intro (fun _ => go) (fun c => ?_)
    have c : ¬ nI w = nI 12 := c
    rw [nI_eq (by omega) (by decide)] at c
    refine And.intro (fun c2 => absurd (show nI w = nI 13 by rw [nI_eq (by omega) (by decide)]; omega) c2) (fun _ => go)
end C95
