/-! tests and ends: the class reads them -/
section C96
variable {f : Nat → Nat → Int32} {g : Nat → Nat → Int64} {r t T k : Nat} {dm : List Nat} {n d L : Nat} {v : xV} {a : Nat → Int32} {m q : Nat} {N : Nat → Int64} {S : xTr} {ρ : Nat → Nat → Option Nat} {X : xF (xN5 × Nat)} {Y : xF (xTr × Nat)} {z : Option Value} {h' : xH} {e : Nat × Nat} {w : xN5 × Nat} {u : xTr × Nat} {F : Nat → Nat → Int32} {G : Nat → Nat → Int64}
theorem y_tst_w {P G' o hi : Nat} {w : Int32} (hw : y_wm a m q = w) (h : w = 22 ∨ w = 23 ∨ w = 24) (ho : w.toNatClampNeg - 4 = o) (hhi : (if w = 22 then 999 else 9999) = hi) : y_tst a m N P G' q = y_bd (y_obj a m N P G' w (y_nxt a m q)) (fun z => if y_tk a m z.2 = 60 ∨ y_tk a m z.2 = 62 ∨ y_tk a m z.2 = 61 then y_bd (y_nbr a m 0 hi (y_nxt a m z.2)) (fun x => .inr ((o, z.1, 0, x.1, (y_tk a m z.2).toNatClampNeg), x.2)) else .inl (y_fl a m z.2 2)) := by
  unfold y_tst
  rw [hw, if_pos h, ho, hhi]
theorem y_obj_22 {P G' : Nat} : y_obj a m N P G' 22 q = .inr (0, q) := (if_neg (by decide)).trans (if_neg (by decide))
theorem y_obj_23 {P G' : Nat} : y_obj a m N P G' 23 q = y_old a m N 9 P q := if_pos rfl
theorem y_obj_24 {P G' : Nat} : y_obj a m N P G' 24 q = y_old a m N 4 G' q := (if_neg (by decide)).trans (if_pos rfl)
theorem c_testRest18_12_32 {q2 p : Nat} {ob : Int32} {Po : Option Value → xH → Prop} (hT : y_TP a m) (hk : k < 60) (hPo : Po = x_PO5 39 k a m f g (x_HR 12 32) dm n X) (hR : x_RC a m q2 F G) (hf : x_fk 39 k f g F G) (h2 : F 41 k = 19) (h9 : F 10 9 = ob) (hob : 18 ≠ 18 → ob = nI p) (hY : X = if y_tk a m q2 = 60 ∨ y_tk a m q2 = 62 ∨ y_tk a m q2 = 61 then y_bd (y_nbr a m 0 999 (y_nxt a m q2)) (fun x => .inr ((18, p, 0, x.1, (y_tk a m q2).toNatClampNeg), x.2)) else .inl (y_fl a m q2 2)) : x_J 65 (d + 3) Po 107 [some (.ref 610), some (.int (nI k)), some (.int 19), none] [] (F, G, x_HR 12 32, dm, n) 0 0 := by
  refine x_wp_ok ok65 [131] 6 ?_
  refine And.intro (x_ix_nI (by omega) (by omega)) ?_
  rw [nI_clamp (by omega)]
  obtain ⟨F1, hF1⟩ : ∃ F1, F1 = x_up F 42 k (F 10 9) := ⟨_, rfl⟩
  have r1 : x_RC a m q2 F1 G := by
    rw [hF1]
    exact x_RC_up (by decide) hR
  have f1 : x_fk 39 k f g F1 G := by
    rw [hF1]
    exact x_fk_t hf (x_fk_up (Or.inr (Or.inl rfl)))
  show x_J 65 (d + 3) Po 131 [some (.ref 610), some (.int (nI k)), some (.int 19), some (.int (x_up F 42 k (F 10 9) 10 4))] [] (x_up F 42 k (F 10 9), G, x_HR 12 32, dm, n) 0 0
  rw [← hF1, r1.2.2.2.1]
  have e3 : F1 42 k = ob := by
    rw [hF1, x_up_s]
    exact h9
  have e2 : F1 41 k = 19 := by
    rw [hF1, x_up_k (by decide)]
    exact h2
  have go : (y_tk a m q2 = 60 ∨ y_tk a m q2 = 62 ∨ y_tk a m q2 = 61) → x_J 65 (d + 3) Po 158 [some (.ref 610), some (.int (nI k)), some (.int 19), some (.int (y_tk a m q2))] [] (F1, G, x_HR 12 32, dm, n) 0 0 := by
    intro hs
    have hsa : y_sa a m q2 ≠ 3 ∧ y_sa a m q2 ≠ 4 := by
      rcases hs with h | h | h <;> rw [y_tk_sa h (by decide)] <;> decide
    rw [if_pos hs] at hY
    have hcl : y_tk a m q2 = nI (y_tk a m q2).toNatClampNeg := by
      rcases hs with h | h | h <;> rw [h] <;> rfl
    refine x_wp_ok ok65 [] 6 ?_
    refine And.intro (x_ix_nI (by omega) (by omega)) ?_
    rw [nI_clamp (by omega)]
    have r2 : x_RC a m q2 (x_up F1 44 k (y_tk a m q2)) G := x_RC_up (by decide) r1
    refine Exists.intro _ (And.intro (c_adv hT r2 hsa.1 hsa.2) (And.intro (And.intro (Nat.zero_le _) (Nat.zero_le _)) (fun zq h' hpo => ?_)))
    obtain ⟨rfl, F2, G2, rfl, w1, -, w3⟩ := hpo
    refine And.intro (fun c => absurd rfl c) (fun _ => ?_)
    refine Exists.intro _ (And.intro (c_takeNumber (lo := 0) (hi := 999) (by decide) (by decide) hT w3) (And.intro (And.intro (Nat.zero_le _) (Nat.zero_le _)) (fun zq h' hpo => ?_)))
    have fr : x_fk 39 k f g F2 G2 := x_fk_t f1 (x_fk_t (x_fk_up (Or.inr (Or.inr rfl))) (x_fk_10 (by decide) w1))
    cases e4 : y_nbr a m 0 999 (y_nxt a m q2) with
    | inl e =>
      obtain ⟨rfl, F3, G3, rfl, p1, p2⟩ := x_PT_l e4 hpo
      refine And.intro ?_ ⟨Or.inl rfl, Nat.le_refl _, Nat.le_refl _⟩
      rw [hPo]
      refine x_PO5_L ?_ (x_fk_t fr (x_fk_10 (by decide) p1)) p2
      rw [hY, e4]
      rfl
    | inr x =>
      obtain ⟨rfl, F3, G3, rfl, p1, p2, p3⟩ := x_PT_r e4 hpo
      refine And.intro ?_ ⟨Or.inr rfl, Nat.le_refl _, Nat.le_refl _⟩
      rw [hPo]
      refine x_PO5_R (w := ((18, p, 0, x.1, (y_tk a m q2).toNatClampNeg), x.2)) ?_ (x_fk_t fr (x_fk_10 (by decide) p1)) p2 ⟨fun h => absurd (show (18 : Nat) ≤ 15 from h) (by decide), fun _ => ⟨?_, fun ho => ?_, ?_⟩, fun _ _ => p3⟩
      · rw [hY, e4]
        rfl
      · rw [p1.1 _ (by decide), w1.1 _ (by decide), x_up_k (by decide)]
        exact e2
      · rw [p1.1 _ (by decide), w1.1 _ (by decide), x_up_k (by decide)]
        exact e3.trans (hob ho)
      · rw [p1.1 _ (by decide), w1.1 _ (by decide), x_up_s]
        exact hcl
  refine x_wp_ok ok65 [158] 6 ?_
  refine And.intro (fun c => go (Or.inl c)) (fun c60 => ?_)
  have c60 : ¬ y_tk a m q2 = 60 := c60
  refine And.intro (fun c => go (Or.inr (Or.inl c))) (fun c62 => ?_)
  have c62 : ¬ y_tk a m q2 = 62 := c62
  refine And.intro (fun c => go (Or.inr (Or.inr c))) (fun c61 => ?_)
  have c61 : ¬ y_tk a m q2 = 61 := c61
  rw [if_neg (fun h => h.elim c60 (fun h => h.elim c62 c61))] at hY
  refine Exists.intro _ (And.intro (c_fail (k := 2) r1) (And.intro (And.intro (Nat.zero_le _) (Nat.zero_le _)) (fun zq h' hpo => ?_)))
  obtain ⟨rfl, F2, rfl, w1, w2⟩ := hpo
  refine And.intro ?_ ⟨Or.inl rfl, Nat.le_refl _, Nat.le_refl _⟩
  rw [hPo]
  exact x_PO5_L hY (x_fk_t f1 (x_fk_10 (by decide) w1)) w2
theorem c_testRest19_12_32 {q2 p : Nat} {ob : Int32} {Po : Option Value → xH → Prop} (hT : y_TP a m) (hk : k < 60) (hPo : Po = x_PO5 39 k a m f g (x_HR 12 32) dm n X) (hR : x_RC a m q2 F G) (hf : x_fk 39 k f g F G) (h2 : F 41 k = 20) (h9 : F 10 9 = ob) (hob : 19 ≠ 18 → ob = nI p) (hY : X = if y_tk a m q2 = 60 ∨ y_tk a m q2 = 62 ∨ y_tk a m q2 = 61 then y_bd (y_nbr a m 0 9999 (y_nxt a m q2)) (fun x => .inr ((19, p, 0, x.1, (y_tk a m q2).toNatClampNeg), x.2)) else .inl (y_fl a m q2 2)) : x_J 65 (d + 3) Po 107 [some (.ref 610), some (.int (nI k)), some (.int 20), none] [] (F, G, x_HR 12 32, dm, n) 0 0 := by
  refine x_wp_ok ok65 [131] 6 ?_
  refine And.intro (x_ix_nI (by omega) (by omega)) ?_
  rw [nI_clamp (by omega)]
  obtain ⟨F1, hF1⟩ : ∃ F1, F1 = x_up F 42 k (F 10 9) := ⟨_, rfl⟩
  have r1 : x_RC a m q2 F1 G := by
    rw [hF1]
    exact x_RC_up (by decide) hR
  have f1 : x_fk 39 k f g F1 G := by
    rw [hF1]
    exact x_fk_t hf (x_fk_up (Or.inr (Or.inl rfl)))
  show x_J 65 (d + 3) Po 131 [some (.ref 610), some (.int (nI k)), some (.int 20), some (.int (x_up F 42 k (F 10 9) 10 4))] [] (x_up F 42 k (F 10 9), G, x_HR 12 32, dm, n) 0 0
  rw [← hF1, r1.2.2.2.1]
  have e3 : F1 42 k = ob := by
    rw [hF1, x_up_s]
    exact h9
  have e2 : F1 41 k = 20 := by
    rw [hF1, x_up_k (by decide)]
    exact h2
  have go : (y_tk a m q2 = 60 ∨ y_tk a m q2 = 62 ∨ y_tk a m q2 = 61) → x_J 65 (d + 3) Po 158 [some (.ref 610), some (.int (nI k)), some (.int 20), some (.int (y_tk a m q2))] [] (F1, G, x_HR 12 32, dm, n) 0 0 := by
    intro hs
    have hsa : y_sa a m q2 ≠ 3 ∧ y_sa a m q2 ≠ 4 := by
      rcases hs with h | h | h <;> rw [y_tk_sa h (by decide)] <;> decide
    rw [if_pos hs] at hY
    have hcl : y_tk a m q2 = nI (y_tk a m q2).toNatClampNeg := by
      rcases hs with h | h | h <;> rw [h] <;> rfl
    refine x_wp_ok ok65 [] 6 ?_
    refine And.intro (x_ix_nI (by omega) (by omega)) ?_
    rw [nI_clamp (by omega)]
    have r2 : x_RC a m q2 (x_up F1 44 k (y_tk a m q2)) G := x_RC_up (by decide) r1
    refine Exists.intro _ (And.intro (c_adv hT r2 hsa.1 hsa.2) (And.intro (And.intro (Nat.zero_le _) (Nat.zero_le _)) (fun zq h' hpo => ?_)))
    obtain ⟨rfl, F2, G2, rfl, w1, -, w3⟩ := hpo
    refine And.intro (fun _ => ?_) (fun c => absurd c (by decide))
    refine Exists.intro _ (And.intro (c_takeNumber (lo := 0) (hi := 9999) (by decide) (by decide) hT w3) (And.intro (And.intro (Nat.zero_le _) (Nat.zero_le _)) (fun zq h' hpo => ?_)))
    have fr : x_fk 39 k f g F2 G2 := x_fk_t f1 (x_fk_t (x_fk_up (Or.inr (Or.inr rfl))) (x_fk_10 (by decide) w1))
    cases e4 : y_nbr a m 0 9999 (y_nxt a m q2) with
    | inl e =>
      obtain ⟨rfl, F3, G3, rfl, p1, p2⟩ := x_PT_l e4 hpo
      refine And.intro ?_ ⟨Or.inl rfl, Nat.le_refl _, Nat.le_refl _⟩
      rw [hPo]
      refine x_PO5_L ?_ (x_fk_t fr (x_fk_10 (by decide) p1)) p2
      rw [hY, e4]
      rfl
    | inr x =>
      obtain ⟨rfl, F3, G3, rfl, p1, p2, p3⟩ := x_PT_r e4 hpo
      refine And.intro ?_ ⟨Or.inr rfl, Nat.le_refl _, Nat.le_refl _⟩
      rw [hPo]
      refine x_PO5_R (w := ((19, p, 0, x.1, (y_tk a m q2).toNatClampNeg), x.2)) ?_ (x_fk_t fr (x_fk_10 (by decide) p1)) p2 ⟨fun h => absurd (show (19 : Nat) ≤ 15 from h) (by decide), fun _ => ⟨?_, fun ho => ?_, ?_⟩, fun _ _ => p3⟩
      · rw [hY, e4]
        rfl
      · rw [p1.1 _ (by decide), w1.1 _ (by decide), x_up_k (by decide)]
        exact e2
      · rw [p1.1 _ (by decide), w1.1 _ (by decide), x_up_k (by decide)]
        exact e3.trans (hob ho)
      · rw [p1.1 _ (by decide), w1.1 _ (by decide), x_up_s]
        exact hcl
  refine x_wp_ok ok65 [158] 6 ?_
  refine And.intro (fun c => go (Or.inl c)) (fun c60 => ?_)
  have c60 : ¬ y_tk a m q2 = 60 := c60
  refine And.intro (fun c => go (Or.inr (Or.inl c))) (fun c62 => ?_)
  have c62 : ¬ y_tk a m q2 = 62 := c62
  refine And.intro (fun c => go (Or.inr (Or.inr c))) (fun c61 => ?_)
  have c61 : ¬ y_tk a m q2 = 61 := c61
  rw [if_neg (fun h => h.elim c60 (fun h => h.elim c62 c61))] at hY
  refine Exists.intro _ (And.intro (c_fail (k := 2) r1) (And.intro (And.intro (Nat.zero_le _) (Nat.zero_le _)) (fun zq h' hpo => ?_)))
  obtain ⟨rfl, F2, rfl, w1, w2⟩ := hpo
  refine And.intro ?_ ⟨Or.inl rfl, Nat.le_refl _, Nat.le_refl _⟩
  rw [hPo]
  exact x_PO5_L hY (x_fk_t f1 (x_fk_10 (by decide) w1)) w2
theorem c_testRest20_12_32 {q2 p : Nat} {ob : Int32} {Po : Option Value → xH → Prop} (hT : y_TP a m) (hk : k < 60) (hPo : Po = x_PO5 39 k a m f g (x_HR 12 32) dm n X) (hR : x_RC a m q2 F G) (hf : x_fk 39 k f g F G) (h2 : F 41 k = 21) (h9 : F 10 9 = ob) (hob : 20 ≠ 18 → ob = nI p) (hY : X = if y_tk a m q2 = 60 ∨ y_tk a m q2 = 62 ∨ y_tk a m q2 = 61 then y_bd (y_nbr a m 0 9999 (y_nxt a m q2)) (fun x => .inr ((20, p, 0, x.1, (y_tk a m q2).toNatClampNeg), x.2)) else .inl (y_fl a m q2 2)) : x_J 65 (d + 3) Po 107 [some (.ref 610), some (.int (nI k)), some (.int 21), none] [] (F, G, x_HR 12 32, dm, n) 0 0 := by
  refine x_wp_ok ok65 [131] 6 ?_
  refine And.intro (x_ix_nI (by omega) (by omega)) ?_
  rw [nI_clamp (by omega)]
  obtain ⟨F1, hF1⟩ : ∃ F1, F1 = x_up F 42 k (F 10 9) := ⟨_, rfl⟩
  have r1 : x_RC a m q2 F1 G := by
    rw [hF1]
    exact x_RC_up (by decide) hR
  have f1 : x_fk 39 k f g F1 G := by
    rw [hF1]
    exact x_fk_t hf (x_fk_up (Or.inr (Or.inl rfl)))
  show x_J 65 (d + 3) Po 131 [some (.ref 610), some (.int (nI k)), some (.int 21), some (.int (x_up F 42 k (F 10 9) 10 4))] [] (x_up F 42 k (F 10 9), G, x_HR 12 32, dm, n) 0 0
  rw [← hF1, r1.2.2.2.1]
  have e3 : F1 42 k = ob := by
    rw [hF1, x_up_s]
    exact h9
  have e2 : F1 41 k = 21 := by
    rw [hF1, x_up_k (by decide)]
    exact h2
  have go : (y_tk a m q2 = 60 ∨ y_tk a m q2 = 62 ∨ y_tk a m q2 = 61) → x_J 65 (d + 3) Po 158 [some (.ref 610), some (.int (nI k)), some (.int 21), some (.int (y_tk a m q2))] [] (F1, G, x_HR 12 32, dm, n) 0 0 := by
    intro hs
    have hsa : y_sa a m q2 ≠ 3 ∧ y_sa a m q2 ≠ 4 := by
      rcases hs with h | h | h <;> rw [y_tk_sa h (by decide)] <;> decide
    rw [if_pos hs] at hY
    have hcl : y_tk a m q2 = nI (y_tk a m q2).toNatClampNeg := by
      rcases hs with h | h | h <;> rw [h] <;> rfl
    refine x_wp_ok ok65 [] 6 ?_
    refine And.intro (x_ix_nI (by omega) (by omega)) ?_
    rw [nI_clamp (by omega)]
    have r2 : x_RC a m q2 (x_up F1 44 k (y_tk a m q2)) G := x_RC_up (by decide) r1
    refine Exists.intro _ (And.intro (c_adv hT r2 hsa.1 hsa.2) (And.intro (And.intro (Nat.zero_le _) (Nat.zero_le _)) (fun zq h' hpo => ?_)))
    obtain ⟨rfl, F2, G2, rfl, w1, -, w3⟩ := hpo
    refine And.intro (fun _ => ?_) (fun c => absurd c (by decide))
    refine Exists.intro _ (And.intro (c_takeNumber (lo := 0) (hi := 9999) (by decide) (by decide) hT w3) (And.intro (And.intro (Nat.zero_le _) (Nat.zero_le _)) (fun zq h' hpo => ?_)))
    have fr : x_fk 39 k f g F2 G2 := x_fk_t f1 (x_fk_t (x_fk_up (Or.inr (Or.inr rfl))) (x_fk_10 (by decide) w1))
    cases e4 : y_nbr a m 0 9999 (y_nxt a m q2) with
    | inl e =>
      obtain ⟨rfl, F3, G3, rfl, p1, p2⟩ := x_PT_l e4 hpo
      refine And.intro ?_ ⟨Or.inl rfl, Nat.le_refl _, Nat.le_refl _⟩
      rw [hPo]
      refine x_PO5_L ?_ (x_fk_t fr (x_fk_10 (by decide) p1)) p2
      rw [hY, e4]
      rfl
    | inr x =>
      obtain ⟨rfl, F3, G3, rfl, p1, p2, p3⟩ := x_PT_r e4 hpo
      refine And.intro ?_ ⟨Or.inr rfl, Nat.le_refl _, Nat.le_refl _⟩
      rw [hPo]
      refine x_PO5_R (w := ((20, p, 0, x.1, (y_tk a m q2).toNatClampNeg), x.2)) ?_ (x_fk_t fr (x_fk_10 (by decide) p1)) p2 ⟨fun h => absurd (show (20 : Nat) ≤ 15 from h) (by decide), fun _ => ⟨?_, fun ho => ?_, ?_⟩, fun _ _ => p3⟩
      · rw [hY, e4]
        rfl
      · rw [p1.1 _ (by decide), w1.1 _ (by decide), x_up_k (by decide)]
        exact e2
      · rw [p1.1 _ (by decide), w1.1 _ (by decide), x_up_k (by decide)]
        exact e3.trans (hob ho)
      · rw [p1.1 _ (by decide), w1.1 _ (by decide), x_up_s]
        exact hcl
  refine x_wp_ok ok65 [158] 6 ?_
  refine And.intro (fun c => go (Or.inl c)) (fun c60 => ?_)
  have c60 : ¬ y_tk a m q2 = 60 := c60
  refine And.intro (fun c => go (Or.inr (Or.inl c))) (fun c62 => ?_)
  have c62 : ¬ y_tk a m q2 = 62 := c62
  refine And.intro (fun c => go (Or.inr (Or.inr c))) (fun c61 => ?_)
  have c61 : ¬ y_tk a m q2 = 61 := c61
  rw [if_neg (fun h => h.elim c60 (fun h => h.elim c62 c61))] at hY
  refine Exists.intro _ (And.intro (c_fail (k := 2) r1) (And.intro (And.intro (Nat.zero_le _) (Nat.zero_le _)) (fun zq h' hpo => ?_)))
  obtain ⟨rfl, F2, rfl, w1, w2⟩ := hpo
  refine And.intro ?_ ⟨Or.inl rfl, Nat.le_refl _, Nat.le_refl _⟩
  rw [hPo]
  exact x_PO5_L hY (x_fk_t f1 (x_fk_10 (by decide) w1)) w2
theorem c_readTest_12_32 (hT : y_TP a m) (hq : q ≤ m) (hk : k < 60) (hR : x_RC a m q f g) (h1 : f 12 1 = nI (v 1 0 0)) (h2 : f 12 2 = nI (v 2 0 0)) (b1 : v 1 0 0 ≤ 5) (b2 : v 2 0 0 ≤ 5) (hN : y_NR (g 14) v N) : x_Ct 65 (d + 3) [.ref 610, .int (nI k)] (f, g, x_HR 12 32, dm, n) (x_PO5 39 k a m f g (x_HR 12 32) dm n (y_tst a m N (v 2 0 0) (v 1 0 0) q)) := by
  obtain ⟨Po, hPo⟩ : ∃ Po : Option Value → xH → Prop, Po = x_PO5 39 k a m f g (x_HR 12 32) dm n (y_tst a m N (v 2 0 0) (v 1 0 0) q) := ⟨_, rfl⟩
  rw [← hPo]
  refine x_Ct_w (by decide) (Nat.le_of_ble_eq_true rfl) ok65 [8] 6 ?_
  show x_J 65 (d + 3) Po 8 [some (.ref 610), some (.int (nI k)), some (.int (f 10 7)), none] [] (f, g, x_HR 12 32, dm, n) 0 0
  rw [hR.2.2.2.2.1]
  have one : ∀ j, j < 25 → y_wm a m q = nI j → y_sa a m q = 1 := by
    intro j hj h
    have no : ∀ j, j < 25 → ¬ nI j = -1 := by decide +kernel
    exact y_wm_sa (by rw [h]; exact no j hj)
  by_cases d22 : y_wm a m q = 22
  · have hs := one 22 (by decide) d22
    have hn := y_nxt_gt (a := a) (m := m) (q := q) (by rw [hs]; decide)
    rw [d22]
    refine x_wp_ok ok65 [107] 6 ?_
    refine And.intro (fun _ => ?_) (fun c => absurd rfl c)
    refine And.intro (x_ix_nI (by omega) (by omega)) ?_
    rw [nI_clamp (by omega)]
    have r1 : x_RC a m q (x_up (x_up f 41 k 19) 10 9 (-1)) g := ⟨(x_up_k (by decide)).trans ((x_up_k (by decide)).trans hR.1), hR.2⟩
    refine Exists.intro _ (And.intro (c_adv hT r1 (by rw [hs]; decide) (by rw [hs]; decide)) (And.intro (And.intro (Nat.zero_le _) (Nat.zero_le _)) (fun zq h' hpo => ?_)))
    obtain ⟨rfl, F1, G1, rfl, w1, w2, w3⟩ := hpo
    refine And.intro (fun _ => ?_) (fun c => absurd c (by decide))
    refine And.intro (fun _ => ?_) (fun c => absurd c (by decide))
    refine c_testRest18_12_32 (p := 0) hT hk hPo w3 (x_fk_t (x_fk_up (Or.inl rfl)) (x_fk_t (x_fk_9 (by decide)) (x_fk_10 (by decide) w1))) ?_ rfl (fun h => absurd rfl h) ?_
    · rw [w1.1 _ (by decide), x_up_k (by decide), x_up_s]
      rfl
    · rw [y_tst_w d22 (Or.inl rfl) (o := 18) (by decide) (hi := 999) (by decide), y_obj_22]
      rfl
  by_cases d23 : y_wm a m q = 23
  · have hs := one 23 (by decide) d23
    have hn := y_nxt_gt (a := a) (m := m) (q := q) (by rw [hs]; decide)
    rw [d23]
    refine x_wp_ok ok65 [107] 6 ?_
    refine And.intro (fun c => absurd c (by decide)) (fun _ => ?_)
    refine And.intro (fun _ => ?_) (fun c => absurd rfl c)
    refine And.intro (x_ix_nI (by omega) (by omega)) ?_
    rw [nI_clamp (by omega)]
    have r1 : x_RC a m q (x_up (x_up f 41 k 20) 10 9 (-1)) g := ⟨(x_up_k (by decide)).trans ((x_up_k (by decide)).trans hR.1), hR.2⟩
    refine Exists.intro _ (And.intro (c_adv hT r1 (by rw [hs]; decide) (by rw [hs]; decide)) (And.intro (And.intro (Nat.zero_le _) (Nat.zero_le _)) (fun zq h' hpo => ?_)))
    obtain ⟨rfl, F1, G1, rfl, w1, w2, w3⟩ := hpo
    have f1 : x_fk 39 k f g F1 G1 := x_fk_t (x_fk_up (Or.inl rfl)) (x_fk_t (x_fk_9 (by decide)) (x_fk_10 (by decide) w1))
    have e2 : F1 41 k = 20 := by
      rw [w1.1 _ (by decide), x_up_k (by decide), x_up_s]
      rfl
    refine And.intro (fun c => absurd rfl c) (fun _ => ?_)
    refine Exists.intro _ (And.intro (c_takeOldName_12_9 (N := N) (M := v 2 0 0) hT hn.2 w3 (by rw [w1.1 12 (by decide), x_up_k (by decide), x_up_k (by decide)]; exact h2) b2 (by rw [w1.2 14 (by decide)]; exact y_NR_9 hN _)) (And.intro (And.intro (Nat.zero_le _) (Nat.zero_le _)) (fun zq h' hpo => ?_)))
    cases e1 : y_old a m N 9 (v 2 0 0) (y_nxt a m q) with
    | inl e =>
      obtain ⟨rfl, F2, G2, rfl, p1, p2⟩ := x_PT_l e1 hpo
      refine And.intro (fun c => absurd rfl c) (fun _ => ?_)
      refine And.intro ?_ ⟨Or.inl rfl, Nat.le_refl _, Nat.le_refl _⟩
      rw [hPo]
      refine x_PO5_L ?_ (x_fk_t f1 (x_fk_10 (by decide) p1)) p2
      rw [y_tst_w d23 (Or.inr (Or.inl rfl)) (o := 19) (by decide) (hi := 9999) (by decide), y_obj_23, e1]
      rfl
    | inr p =>
      obtain ⟨rfl, F2, G2, rfl, p1, p2, p3⟩ := x_PT_r e1 hpo
      refine And.intro (fun _ => ?_) (fun c => absurd (show (1 : Int32) = 0 from c) (by decide))
      refine And.intro (fun _ => ?_) (fun c => absurd c (by decide))
      refine c_testRest19_12_32 (p := p.1) hT hk hPo p2 (x_fk_t f1 (x_fk_10 (by decide) p1)) (by rw [p1.1 _ (by decide)]; exact e2) p3 (fun _ => rfl) ?_
      rw [y_tst_w d23 (Or.inr (Or.inl rfl)) (o := 19) (by decide) (hi := 9999) (by decide), y_obj_23, e1]
      rfl
  by_cases d24 : y_wm a m q = 24
  · have hs := one 24 (by decide) d24
    have hn := y_nxt_gt (a := a) (m := m) (q := q) (by rw [hs]; decide)
    rw [d24]
    refine x_wp_ok ok65 [107] 6 ?_
    refine And.intro (fun c => absurd c (by decide)) (fun _ => ?_)
    refine And.intro (fun c => absurd c (by decide)) (fun _ => ?_)
    refine And.intro (fun _ => ?_) (fun c => absurd rfl c)
    refine And.intro (x_ix_nI (by omega) (by omega)) ?_
    rw [nI_clamp (by omega)]
    have r1 : x_RC a m q (x_up (x_up f 41 k 21) 10 9 (-1)) g := ⟨(x_up_k (by decide)).trans ((x_up_k (by decide)).trans hR.1), hR.2⟩
    refine Exists.intro _ (And.intro (c_adv hT r1 (by rw [hs]; decide) (by rw [hs]; decide)) (And.intro (And.intro (Nat.zero_le _) (Nat.zero_le _)) (fun zq h' hpo => ?_)))
    obtain ⟨rfl, F1, G1, rfl, w1, w2, w3⟩ := hpo
    have f1 : x_fk 39 k f g F1 G1 := x_fk_t (x_fk_up (Or.inl rfl)) (x_fk_t (x_fk_9 (by decide)) (x_fk_10 (by decide) w1))
    have e2 : F1 41 k = 21 := by
      rw [w1.1 _ (by decide), x_up_k (by decide), x_up_s]
      rfl
    refine And.intro (fun _ => ?_) (fun c => absurd c (by decide))
    refine And.intro (fun c => absurd rfl c) (fun _ => ?_)
    refine Exists.intro _ (And.intro (c_takeOldName_12_4 (N := N) (M := v 1 0 0) hT hn.2 w3 (by rw [w1.1 12 (by decide), x_up_k (by decide), x_up_k (by decide)]; exact h1) b1 (by rw [w1.2 14 (by decide)]; exact y_NR_4 hN _)) (And.intro (And.intro (Nat.zero_le _) (Nat.zero_le _)) (fun zq h' hpo => ?_)))
    cases e1 : y_old a m N 4 (v 1 0 0) (y_nxt a m q) with
    | inl e =>
      obtain ⟨rfl, F2, G2, rfl, p1, p2⟩ := x_PT_l e1 hpo
      refine And.intro (fun c => absurd rfl c) (fun _ => ?_)
      refine And.intro ?_ ⟨Or.inl rfl, Nat.le_refl _, Nat.le_refl _⟩
      rw [hPo]
      refine x_PO5_L ?_ (x_fk_t f1 (x_fk_10 (by decide) p1)) p2
      rw [y_tst_w d24 (Or.inr (Or.inr rfl)) (o := 20) (by decide) (hi := 9999) (by decide), y_obj_24, e1]
      rfl
    | inr p =>
      obtain ⟨rfl, F2, G2, rfl, p1, p2, p3⟩ := x_PT_r e1 hpo
      refine And.intro (fun _ => ?_) (fun c => absurd (show (1 : Int32) = 0 from c) (by decide))
      refine c_testRest20_12_32 (p := p.1) hT hk hPo p2 (x_fk_t f1 (x_fk_10 (by decide) p1)) (by rw [p1.1 _ (by decide)]; exact e2) p3 (fun _ => rfl) ?_
      rw [y_tst_w d24 (Or.inr (Or.inr rfl)) (o := 20) (by decide) (hi := 9999) (by decide), y_obj_24, e1]
      rfl
  have hY : y_tst a m N (v 2 0 0) (v 1 0 0) q = .inl (y_fl a m q 2) := by
    unfold y_tst
    rw [if_neg (fun h => h.elim d22 (fun h => h.elim d23 d24))]
  refine x_wp_ok ok65 [] 6 ?_
  refine And.intro (fun c => absurd ((y_tr_eq a m q (w := 22) (by decide)).mp c) d22) (fun _ => ?_)
  refine And.intro (fun c => absurd ((y_tr_eq a m q (w := 23) (by decide)).mp c) d23) (fun _ => ?_)
  refine And.intro (fun c => absurd ((y_tr_eq a m q (w := 24) (by decide)).mp c) d24) (fun _ => ?_)
  refine Exists.intro _ (And.intro (c_fail (k := 2) hR) (And.intro (And.intro (Nat.zero_le _) (Nat.zero_le _)) (fun zq h' hpo => ?_)))
  obtain ⟨rfl, F1, rfl, u1, u2⟩ := hpo
  refine And.intro ?_ ⟨Or.inl rfl, Nat.le_refl _, Nat.le_refl _⟩
  rw [hPo]
  exact x_PO5_L hY (x_fk_10 (by decide) u1) u2
theorem c_testRest18_12_39 {q2 p : Nat} {ob : Int32} {Po : Option Value → xH → Prop} (hT : y_TP a m) (hk : k < 60) (hPo : Po = x_PO5 32 k a m f g (x_HR 12 39) dm n X) (hR : x_RC a m q2 F G) (hf : x_fk 32 k f g F G) (h2 : F 34 k = 19) (h9 : F 10 9 = ob) (hob : 18 ≠ 18 → ob = nI p) (hY : X = if y_tk a m q2 = 60 ∨ y_tk a m q2 = 62 ∨ y_tk a m q2 = 61 then y_bd (y_nbr a m 0 999 (y_nxt a m q2)) (fun x => .inr ((18, p, 0, x.1, (y_tk a m q2).toNatClampNeg), x.2)) else .inl (y_fl a m q2 2)) : x_J 65 (d + 3) Po 107 [some (.ref 610), some (.int (nI k)), some (.int 19), none] [] (F, G, x_HR 12 39, dm, n) 0 0 := by
  refine x_wp_ok ok65 [131] 6 ?_
  refine And.intro (x_ix_nI (by omega) (by omega)) ?_
  rw [nI_clamp (by omega)]
  obtain ⟨F1, hF1⟩ : ∃ F1, F1 = x_up F 35 k (F 10 9) := ⟨_, rfl⟩
  have r1 : x_RC a m q2 F1 G := by
    rw [hF1]
    exact x_RC_up (by decide) hR
  have f1 : x_fk 32 k f g F1 G := by
    rw [hF1]
    exact x_fk_t hf (x_fk_up (Or.inr (Or.inl rfl)))
  show x_J 65 (d + 3) Po 131 [some (.ref 610), some (.int (nI k)), some (.int 19), some (.int (x_up F 35 k (F 10 9) 10 4))] [] (x_up F 35 k (F 10 9), G, x_HR 12 39, dm, n) 0 0
  rw [← hF1, r1.2.2.2.1]
  have e3 : F1 35 k = ob := by
    rw [hF1, x_up_s]
    exact h9
  have e2 : F1 34 k = 19 := by
    rw [hF1, x_up_k (by decide)]
    exact h2
  have go : (y_tk a m q2 = 60 ∨ y_tk a m q2 = 62 ∨ y_tk a m q2 = 61) → x_J 65 (d + 3) Po 158 [some (.ref 610), some (.int (nI k)), some (.int 19), some (.int (y_tk a m q2))] [] (F1, G, x_HR 12 39, dm, n) 0 0 := by
    intro hs
    have hsa : y_sa a m q2 ≠ 3 ∧ y_sa a m q2 ≠ 4 := by
      rcases hs with h | h | h <;> rw [y_tk_sa h (by decide)] <;> decide
    rw [if_pos hs] at hY
    have hcl : y_tk a m q2 = nI (y_tk a m q2).toNatClampNeg := by
      rcases hs with h | h | h <;> rw [h] <;> rfl
    refine x_wp_ok ok65 [] 6 ?_
    refine And.intro (x_ix_nI (by omega) (by omega)) ?_
    rw [nI_clamp (by omega)]
    have r2 : x_RC a m q2 (x_up F1 37 k (y_tk a m q2)) G := x_RC_up (by decide) r1
    refine Exists.intro _ (And.intro (c_adv hT r2 hsa.1 hsa.2) (And.intro (And.intro (Nat.zero_le _) (Nat.zero_le _)) (fun zq h' hpo => ?_)))
    obtain ⟨rfl, F2, G2, rfl, w1, -, w3⟩ := hpo
    refine And.intro (fun c => absurd rfl c) (fun _ => ?_)
    refine Exists.intro _ (And.intro (c_takeNumber (lo := 0) (hi := 999) (by decide) (by decide) hT w3) (And.intro (And.intro (Nat.zero_le _) (Nat.zero_le _)) (fun zq h' hpo => ?_)))
    have fr : x_fk 32 k f g F2 G2 := x_fk_t f1 (x_fk_t (x_fk_up (Or.inr (Or.inr rfl))) (x_fk_10 (by decide) w1))
    cases e4 : y_nbr a m 0 999 (y_nxt a m q2) with
    | inl e =>
      obtain ⟨rfl, F3, G3, rfl, p1, p2⟩ := x_PT_l e4 hpo
      refine And.intro ?_ ⟨Or.inl rfl, Nat.le_refl _, Nat.le_refl _⟩
      rw [hPo]
      refine x_PO5_L ?_ (x_fk_t fr (x_fk_10 (by decide) p1)) p2
      rw [hY, e4]
      rfl
    | inr x =>
      obtain ⟨rfl, F3, G3, rfl, p1, p2, p3⟩ := x_PT_r e4 hpo
      refine And.intro ?_ ⟨Or.inr rfl, Nat.le_refl _, Nat.le_refl _⟩
      rw [hPo]
      refine x_PO5_R (w := ((18, p, 0, x.1, (y_tk a m q2).toNatClampNeg), x.2)) ?_ (x_fk_t fr (x_fk_10 (by decide) p1)) p2 ⟨fun h => absurd (show (18 : Nat) ≤ 15 from h) (by decide), fun _ => ⟨?_, fun ho => ?_, ?_⟩, fun _ _ => p3⟩
      · rw [hY, e4]
        rfl
      · rw [p1.1 _ (by decide), w1.1 _ (by decide), x_up_k (by decide)]
        exact e2
      · rw [p1.1 _ (by decide), w1.1 _ (by decide), x_up_k (by decide)]
        exact e3.trans (hob ho)
      · rw [p1.1 _ (by decide), w1.1 _ (by decide), x_up_s]
        exact hcl
  refine x_wp_ok ok65 [158] 6 ?_
  refine And.intro (fun c => go (Or.inl c)) (fun c60 => ?_)
  have c60 : ¬ y_tk a m q2 = 60 := c60
  refine And.intro (fun c => go (Or.inr (Or.inl c))) (fun c62 => ?_)
  have c62 : ¬ y_tk a m q2 = 62 := c62
  refine And.intro (fun c => go (Or.inr (Or.inr c))) (fun c61 => ?_)
  have c61 : ¬ y_tk a m q2 = 61 := c61
  rw [if_neg (fun h => h.elim c60 (fun h => h.elim c62 c61))] at hY
  refine Exists.intro _ (And.intro (c_fail (k := 2) r1) (And.intro (And.intro (Nat.zero_le _) (Nat.zero_le _)) (fun zq h' hpo => ?_)))
  obtain ⟨rfl, F2, rfl, w1, w2⟩ := hpo
  refine And.intro ?_ ⟨Or.inl rfl, Nat.le_refl _, Nat.le_refl _⟩
  rw [hPo]
  exact x_PO5_L hY (x_fk_t f1 (x_fk_10 (by decide) w1)) w2
theorem c_testRest19_12_39 {q2 p : Nat} {ob : Int32} {Po : Option Value → xH → Prop} (hT : y_TP a m) (hk : k < 60) (hPo : Po = x_PO5 32 k a m f g (x_HR 12 39) dm n X) (hR : x_RC a m q2 F G) (hf : x_fk 32 k f g F G) (h2 : F 34 k = 20) (h9 : F 10 9 = ob) (hob : 19 ≠ 18 → ob = nI p) (hY : X = if y_tk a m q2 = 60 ∨ y_tk a m q2 = 62 ∨ y_tk a m q2 = 61 then y_bd (y_nbr a m 0 9999 (y_nxt a m q2)) (fun x => .inr ((19, p, 0, x.1, (y_tk a m q2).toNatClampNeg), x.2)) else .inl (y_fl a m q2 2)) : x_J 65 (d + 3) Po 107 [some (.ref 610), some (.int (nI k)), some (.int 20), none] [] (F, G, x_HR 12 39, dm, n) 0 0 := by
  refine x_wp_ok ok65 [131] 6 ?_
  refine And.intro (x_ix_nI (by omega) (by omega)) ?_
  rw [nI_clamp (by omega)]
  obtain ⟨F1, hF1⟩ : ∃ F1, F1 = x_up F 35 k (F 10 9) := ⟨_, rfl⟩
  have r1 : x_RC a m q2 F1 G := by
    rw [hF1]
    exact x_RC_up (by decide) hR
  have f1 : x_fk 32 k f g F1 G := by
    rw [hF1]
    exact x_fk_t hf (x_fk_up (Or.inr (Or.inl rfl)))
  show x_J 65 (d + 3) Po 131 [some (.ref 610), some (.int (nI k)), some (.int 20), some (.int (x_up F 35 k (F 10 9) 10 4))] [] (x_up F 35 k (F 10 9), G, x_HR 12 39, dm, n) 0 0
  rw [← hF1, r1.2.2.2.1]
  have e3 : F1 35 k = ob := by
    rw [hF1, x_up_s]
    exact h9
  have e2 : F1 34 k = 20 := by
    rw [hF1, x_up_k (by decide)]
    exact h2
  have go : (y_tk a m q2 = 60 ∨ y_tk a m q2 = 62 ∨ y_tk a m q2 = 61) → x_J 65 (d + 3) Po 158 [some (.ref 610), some (.int (nI k)), some (.int 20), some (.int (y_tk a m q2))] [] (F1, G, x_HR 12 39, dm, n) 0 0 := by
    intro hs
    have hsa : y_sa a m q2 ≠ 3 ∧ y_sa a m q2 ≠ 4 := by
      rcases hs with h | h | h <;> rw [y_tk_sa h (by decide)] <;> decide
    rw [if_pos hs] at hY
    have hcl : y_tk a m q2 = nI (y_tk a m q2).toNatClampNeg := by
      rcases hs with h | h | h <;> rw [h] <;> rfl
    refine x_wp_ok ok65 [] 6 ?_
    refine And.intro (x_ix_nI (by omega) (by omega)) ?_
    rw [nI_clamp (by omega)]
    have r2 : x_RC a m q2 (x_up F1 37 k (y_tk a m q2)) G := x_RC_up (by decide) r1
    refine Exists.intro _ (And.intro (c_adv hT r2 hsa.1 hsa.2) (And.intro (And.intro (Nat.zero_le _) (Nat.zero_le _)) (fun zq h' hpo => ?_)))
    obtain ⟨rfl, F2, G2, rfl, w1, -, w3⟩ := hpo
    refine And.intro (fun _ => ?_) (fun c => absurd c (by decide))
    refine Exists.intro _ (And.intro (c_takeNumber (lo := 0) (hi := 9999) (by decide) (by decide) hT w3) (And.intro (And.intro (Nat.zero_le _) (Nat.zero_le _)) (fun zq h' hpo => ?_)))
    have fr : x_fk 32 k f g F2 G2 := x_fk_t f1 (x_fk_t (x_fk_up (Or.inr (Or.inr rfl))) (x_fk_10 (by decide) w1))
    cases e4 : y_nbr a m 0 9999 (y_nxt a m q2) with
    | inl e =>
      obtain ⟨rfl, F3, G3, rfl, p1, p2⟩ := x_PT_l e4 hpo
      refine And.intro ?_ ⟨Or.inl rfl, Nat.le_refl _, Nat.le_refl _⟩
      rw [hPo]
      refine x_PO5_L ?_ (x_fk_t fr (x_fk_10 (by decide) p1)) p2
      rw [hY, e4]
      rfl
    | inr x =>
      obtain ⟨rfl, F3, G3, rfl, p1, p2, p3⟩ := x_PT_r e4 hpo
      refine And.intro ?_ ⟨Or.inr rfl, Nat.le_refl _, Nat.le_refl _⟩
      rw [hPo]
      refine x_PO5_R (w := ((19, p, 0, x.1, (y_tk a m q2).toNatClampNeg), x.2)) ?_ (x_fk_t fr (x_fk_10 (by decide) p1)) p2 ⟨fun h => absurd (show (19 : Nat) ≤ 15 from h) (by decide), fun _ => ⟨?_, fun ho => ?_, ?_⟩, fun _ _ => p3⟩
      · rw [hY, e4]
        rfl
      · rw [p1.1 _ (by decide), w1.1 _ (by decide), x_up_k (by decide)]
        exact e2
      · rw [p1.1 _ (by decide), w1.1 _ (by decide), x_up_k (by decide)]
        exact e3.trans (hob ho)
      · rw [p1.1 _ (by decide), w1.1 _ (by decide), x_up_s]
        exact hcl
  refine x_wp_ok ok65 [158] 6 ?_
  refine And.intro (fun c => go (Or.inl c)) (fun c60 => ?_)
  have c60 : ¬ y_tk a m q2 = 60 := c60
  refine And.intro (fun c => go (Or.inr (Or.inl c))) (fun c62 => ?_)
  have c62 : ¬ y_tk a m q2 = 62 := c62
  refine And.intro (fun c => go (Or.inr (Or.inr c))) (fun c61 => ?_)
  have c61 : ¬ y_tk a m q2 = 61 := c61
  rw [if_neg (fun h => h.elim c60 (fun h => h.elim c62 c61))] at hY
  refine Exists.intro _ (And.intro (c_fail (k := 2) r1) (And.intro (And.intro (Nat.zero_le _) (Nat.zero_le _)) (fun zq h' hpo => ?_)))
  obtain ⟨rfl, F2, rfl, w1, w2⟩ := hpo
  refine And.intro ?_ ⟨Or.inl rfl, Nat.le_refl _, Nat.le_refl _⟩
  rw [hPo]
  exact x_PO5_L hY (x_fk_t f1 (x_fk_10 (by decide) w1)) w2
theorem c_testRest20_12_39 {q2 p : Nat} {ob : Int32} {Po : Option Value → xH → Prop} (hT : y_TP a m) (hk : k < 60) (hPo : Po = x_PO5 32 k a m f g (x_HR 12 39) dm n X) (hR : x_RC a m q2 F G) (hf : x_fk 32 k f g F G) (h2 : F 34 k = 21) (h9 : F 10 9 = ob) (hob : 20 ≠ 18 → ob = nI p) (hY : X = if y_tk a m q2 = 60 ∨ y_tk a m q2 = 62 ∨ y_tk a m q2 = 61 then y_bd (y_nbr a m 0 9999 (y_nxt a m q2)) (fun x => .inr ((20, p, 0, x.1, (y_tk a m q2).toNatClampNeg), x.2)) else .inl (y_fl a m q2 2)) : x_J 65 (d + 3) Po 107 [some (.ref 610), some (.int (nI k)), some (.int 21), none] [] (F, G, x_HR 12 39, dm, n) 0 0 := by
  refine x_wp_ok ok65 [131] 6 ?_
  refine And.intro (x_ix_nI (by omega) (by omega)) ?_
  rw [nI_clamp (by omega)]
  obtain ⟨F1, hF1⟩ : ∃ F1, F1 = x_up F 35 k (F 10 9) := ⟨_, rfl⟩
  have r1 : x_RC a m q2 F1 G := by
    rw [hF1]
    exact x_RC_up (by decide) hR
  have f1 : x_fk 32 k f g F1 G := by
    rw [hF1]
    exact x_fk_t hf (x_fk_up (Or.inr (Or.inl rfl)))
  show x_J 65 (d + 3) Po 131 [some (.ref 610), some (.int (nI k)), some (.int 21), some (.int (x_up F 35 k (F 10 9) 10 4))] [] (x_up F 35 k (F 10 9), G, x_HR 12 39, dm, n) 0 0
  rw [← hF1, r1.2.2.2.1]
  have e3 : F1 35 k = ob := by
    rw [hF1, x_up_s]
    exact h9
  have e2 : F1 34 k = 21 := by
    rw [hF1, x_up_k (by decide)]
    exact h2
  have go : (y_tk a m q2 = 60 ∨ y_tk a m q2 = 62 ∨ y_tk a m q2 = 61) → x_J 65 (d + 3) Po 158 [some (.ref 610), some (.int (nI k)), some (.int 21), some (.int (y_tk a m q2))] [] (F1, G, x_HR 12 39, dm, n) 0 0 := by
    intro hs
    have hsa : y_sa a m q2 ≠ 3 ∧ y_sa a m q2 ≠ 4 := by
      rcases hs with h | h | h <;> rw [y_tk_sa h (by decide)] <;> decide
    rw [if_pos hs] at hY
    have hcl : y_tk a m q2 = nI (y_tk a m q2).toNatClampNeg := by
      rcases hs with h | h | h <;> rw [h] <;> rfl
    refine x_wp_ok ok65 [] 6 ?_
    refine And.intro (x_ix_nI (by omega) (by omega)) ?_
    rw [nI_clamp (by omega)]
    have r2 : x_RC a m q2 (x_up F1 37 k (y_tk a m q2)) G := x_RC_up (by decide) r1
    refine Exists.intro _ (And.intro (c_adv hT r2 hsa.1 hsa.2) (And.intro (And.intro (Nat.zero_le _) (Nat.zero_le _)) (fun zq h' hpo => ?_)))
    obtain ⟨rfl, F2, G2, rfl, w1, -, w3⟩ := hpo
    refine And.intro (fun _ => ?_) (fun c => absurd c (by decide))
    refine Exists.intro _ (And.intro (c_takeNumber (lo := 0) (hi := 9999) (by decide) (by decide) hT w3) (And.intro (And.intro (Nat.zero_le _) (Nat.zero_le _)) (fun zq h' hpo => ?_)))
    have fr : x_fk 32 k f g F2 G2 := x_fk_t f1 (x_fk_t (x_fk_up (Or.inr (Or.inr rfl))) (x_fk_10 (by decide) w1))
    cases e4 : y_nbr a m 0 9999 (y_nxt a m q2) with
    | inl e =>
      obtain ⟨rfl, F3, G3, rfl, p1, p2⟩ := x_PT_l e4 hpo
      refine And.intro ?_ ⟨Or.inl rfl, Nat.le_refl _, Nat.le_refl _⟩
      rw [hPo]
      refine x_PO5_L ?_ (x_fk_t fr (x_fk_10 (by decide) p1)) p2
      rw [hY, e4]
      rfl
    | inr x =>
      obtain ⟨rfl, F3, G3, rfl, p1, p2, p3⟩ := x_PT_r e4 hpo
      refine And.intro ?_ ⟨Or.inr rfl, Nat.le_refl _, Nat.le_refl _⟩
      rw [hPo]
      refine x_PO5_R (w := ((20, p, 0, x.1, (y_tk a m q2).toNatClampNeg), x.2)) ?_ (x_fk_t fr (x_fk_10 (by decide) p1)) p2 ⟨fun h => absurd (show (20 : Nat) ≤ 15 from h) (by decide), fun _ => ⟨?_, fun ho => ?_, ?_⟩, fun _ _ => p3⟩
      · rw [hY, e4]
        rfl
      · rw [p1.1 _ (by decide), w1.1 _ (by decide), x_up_k (by decide)]
        exact e2
      · rw [p1.1 _ (by decide), w1.1 _ (by decide), x_up_k (by decide)]
        exact e3.trans (hob ho)
      · rw [p1.1 _ (by decide), w1.1 _ (by decide), x_up_s]
        exact hcl
  refine x_wp_ok ok65 [158] 6 ?_
  refine And.intro (fun c => go (Or.inl c)) (fun c60 => ?_)
  have c60 : ¬ y_tk a m q2 = 60 := c60
  refine And.intro (fun c => go (Or.inr (Or.inl c))) (fun c62 => ?_)
  have c62 : ¬ y_tk a m q2 = 62 := c62
  refine And.intro (fun c => go (Or.inr (Or.inr c))) (fun c61 => ?_)
  have c61 : ¬ y_tk a m q2 = 61 := c61
  rw [if_neg (fun h => h.elim c60 (fun h => h.elim c62 c61))] at hY
  refine Exists.intro _ (And.intro (c_fail (k := 2) r1) (And.intro (And.intro (Nat.zero_le _) (Nat.zero_le _)) (fun zq h' hpo => ?_)))
  obtain ⟨rfl, F2, rfl, w1, w2⟩ := hpo
  refine And.intro ?_ ⟨Or.inl rfl, Nat.le_refl _, Nat.le_refl _⟩
  rw [hPo]
  exact x_PO5_L hY (x_fk_t f1 (x_fk_10 (by decide) w1)) w2
theorem c_readTest_12_39 (hT : y_TP a m) (hq : q ≤ m) (hk : k < 60) (hR : x_RC a m q f g) (h1 : f 12 1 = nI (v 1 0 0)) (h2 : f 12 2 = nI (v 2 0 0)) (b1 : v 1 0 0 ≤ 5) (b2 : v 2 0 0 ≤ 5) (hN : y_NR (g 14) v N) : x_Ct 65 (d + 3) [.ref 610, .int (nI k)] (f, g, x_HR 12 39, dm, n) (x_PO5 32 k a m f g (x_HR 12 39) dm n (y_tst a m N (v 2 0 0) (v 1 0 0) q)) := by
  obtain ⟨Po, hPo⟩ : ∃ Po : Option Value → xH → Prop, Po = x_PO5 32 k a m f g (x_HR 12 39) dm n (y_tst a m N (v 2 0 0) (v 1 0 0) q) := ⟨_, rfl⟩
  rw [← hPo]
  refine x_Ct_w (by decide) (Nat.le_of_ble_eq_true rfl) ok65 [8] 6 ?_
  show x_J 65 (d + 3) Po 8 [some (.ref 610), some (.int (nI k)), some (.int (f 10 7)), none] [] (f, g, x_HR 12 39, dm, n) 0 0
  rw [hR.2.2.2.2.1]
  have one : ∀ j, j < 25 → y_wm a m q = nI j → y_sa a m q = 1 := by
    intro j hj h
    have no : ∀ j, j < 25 → ¬ nI j = -1 := by decide +kernel
    exact y_wm_sa (by rw [h]; exact no j hj)
  by_cases d22 : y_wm a m q = 22
  · have hs := one 22 (by decide) d22
    have hn := y_nxt_gt (a := a) (m := m) (q := q) (by rw [hs]; decide)
    rw [d22]
    refine x_wp_ok ok65 [107] 6 ?_
    refine And.intro (fun _ => ?_) (fun c => absurd rfl c)
    refine And.intro (x_ix_nI (by omega) (by omega)) ?_
    rw [nI_clamp (by omega)]
    have r1 : x_RC a m q (x_up (x_up f 34 k 19) 10 9 (-1)) g := ⟨(x_up_k (by decide)).trans ((x_up_k (by decide)).trans hR.1), hR.2⟩
    refine Exists.intro _ (And.intro (c_adv hT r1 (by rw [hs]; decide) (by rw [hs]; decide)) (And.intro (And.intro (Nat.zero_le _) (Nat.zero_le _)) (fun zq h' hpo => ?_)))
    obtain ⟨rfl, F1, G1, rfl, w1, w2, w3⟩ := hpo
    refine And.intro (fun _ => ?_) (fun c => absurd c (by decide))
    refine And.intro (fun _ => ?_) (fun c => absurd c (by decide))
    refine c_testRest18_12_39 (p := 0) hT hk hPo w3 (x_fk_t (x_fk_up (Or.inl rfl)) (x_fk_t (x_fk_9 (by decide)) (x_fk_10 (by decide) w1))) ?_ rfl (fun h => absurd rfl h) ?_
    · rw [w1.1 _ (by decide), x_up_k (by decide), x_up_s]
      rfl
    · rw [y_tst_w d22 (Or.inl rfl) (o := 18) (by decide) (hi := 999) (by decide), y_obj_22]
      rfl
  by_cases d23 : y_wm a m q = 23
  · have hs := one 23 (by decide) d23
    have hn := y_nxt_gt (a := a) (m := m) (q := q) (by rw [hs]; decide)
    rw [d23]
    refine x_wp_ok ok65 [107] 6 ?_
    refine And.intro (fun c => absurd c (by decide)) (fun _ => ?_)
    refine And.intro (fun _ => ?_) (fun c => absurd rfl c)
    refine And.intro (x_ix_nI (by omega) (by omega)) ?_
    rw [nI_clamp (by omega)]
    have r1 : x_RC a m q (x_up (x_up f 34 k 20) 10 9 (-1)) g := ⟨(x_up_k (by decide)).trans ((x_up_k (by decide)).trans hR.1), hR.2⟩
    refine Exists.intro _ (And.intro (c_adv hT r1 (by rw [hs]; decide) (by rw [hs]; decide)) (And.intro (And.intro (Nat.zero_le _) (Nat.zero_le _)) (fun zq h' hpo => ?_)))
    obtain ⟨rfl, F1, G1, rfl, w1, w2, w3⟩ := hpo
    have f1 : x_fk 32 k f g F1 G1 := x_fk_t (x_fk_up (Or.inl rfl)) (x_fk_t (x_fk_9 (by decide)) (x_fk_10 (by decide) w1))
    have e2 : F1 34 k = 20 := by
      rw [w1.1 _ (by decide), x_up_k (by decide), x_up_s]
      rfl
    refine And.intro (fun c => absurd rfl c) (fun _ => ?_)
    refine Exists.intro _ (And.intro (c_takeOldName_12_9 (N := N) (M := v 2 0 0) hT hn.2 w3 (by rw [w1.1 12 (by decide), x_up_k (by decide), x_up_k (by decide)]; exact h2) b2 (by rw [w1.2 14 (by decide)]; exact y_NR_9 hN _)) (And.intro (And.intro (Nat.zero_le _) (Nat.zero_le _)) (fun zq h' hpo => ?_)))
    cases e1 : y_old a m N 9 (v 2 0 0) (y_nxt a m q) with
    | inl e =>
      obtain ⟨rfl, F2, G2, rfl, p1, p2⟩ := x_PT_l e1 hpo
      refine And.intro (fun c => absurd rfl c) (fun _ => ?_)
      refine And.intro ?_ ⟨Or.inl rfl, Nat.le_refl _, Nat.le_refl _⟩
      rw [hPo]
      refine x_PO5_L ?_ (x_fk_t f1 (x_fk_10 (by decide) p1)) p2
      rw [y_tst_w d23 (Or.inr (Or.inl rfl)) (o := 19) (by decide) (hi := 9999) (by decide), y_obj_23, e1]
      rfl
    | inr p =>
      obtain ⟨rfl, F2, G2, rfl, p1, p2, p3⟩ := x_PT_r e1 hpo
      refine And.intro (fun _ => ?_) (fun c => absurd (show (1 : Int32) = 0 from c) (by decide))
      refine And.intro (fun _ => ?_) (fun c => absurd c (by decide))
      refine c_testRest19_12_39 (p := p.1) hT hk hPo p2 (x_fk_t f1 (x_fk_10 (by decide) p1)) (by rw [p1.1 _ (by decide)]; exact e2) p3 (fun _ => rfl) ?_
      rw [y_tst_w d23 (Or.inr (Or.inl rfl)) (o := 19) (by decide) (hi := 9999) (by decide), y_obj_23, e1]
      rfl
  by_cases d24 : y_wm a m q = 24
  · have hs := one 24 (by decide) d24
    have hn := y_nxt_gt (a := a) (m := m) (q := q) (by rw [hs]; decide)
    rw [d24]
    refine x_wp_ok ok65 [107] 6 ?_
    refine And.intro (fun c => absurd c (by decide)) (fun _ => ?_)
    refine And.intro (fun c => absurd c (by decide)) (fun _ => ?_)
    refine And.intro (fun _ => ?_) (fun c => absurd rfl c)
    refine And.intro (x_ix_nI (by omega) (by omega)) ?_
    rw [nI_clamp (by omega)]
    have r1 : x_RC a m q (x_up (x_up f 34 k 21) 10 9 (-1)) g := ⟨(x_up_k (by decide)).trans ((x_up_k (by decide)).trans hR.1), hR.2⟩
    refine Exists.intro _ (And.intro (c_adv hT r1 (by rw [hs]; decide) (by rw [hs]; decide)) (And.intro (And.intro (Nat.zero_le _) (Nat.zero_le _)) (fun zq h' hpo => ?_)))
    obtain ⟨rfl, F1, G1, rfl, w1, w2, w3⟩ := hpo
    have f1 : x_fk 32 k f g F1 G1 := x_fk_t (x_fk_up (Or.inl rfl)) (x_fk_t (x_fk_9 (by decide)) (x_fk_10 (by decide) w1))
    have e2 : F1 34 k = 21 := by
      rw [w1.1 _ (by decide), x_up_k (by decide), x_up_s]
      rfl
    refine And.intro (fun _ => ?_) (fun c => absurd c (by decide))
    refine And.intro (fun c => absurd rfl c) (fun _ => ?_)
    refine Exists.intro _ (And.intro (c_takeOldName_12_4 (N := N) (M := v 1 0 0) hT hn.2 w3 (by rw [w1.1 12 (by decide), x_up_k (by decide), x_up_k (by decide)]; exact h1) b1 (by rw [w1.2 14 (by decide)]; exact y_NR_4 hN _)) (And.intro (And.intro (Nat.zero_le _) (Nat.zero_le _)) (fun zq h' hpo => ?_)))
    cases e1 : y_old a m N 4 (v 1 0 0) (y_nxt a m q) with
    | inl e =>
      obtain ⟨rfl, F2, G2, rfl, p1, p2⟩ := x_PT_l e1 hpo
      refine And.intro (fun c => absurd rfl c) (fun _ => ?_)
      refine And.intro ?_ ⟨Or.inl rfl, Nat.le_refl _, Nat.le_refl _⟩
      rw [hPo]
      refine x_PO5_L ?_ (x_fk_t f1 (x_fk_10 (by decide) p1)) p2
      rw [y_tst_w d24 (Or.inr (Or.inr rfl)) (o := 20) (by decide) (hi := 9999) (by decide), y_obj_24, e1]
      rfl
    | inr p =>
      obtain ⟨rfl, F2, G2, rfl, p1, p2, p3⟩ := x_PT_r e1 hpo
      refine And.intro (fun _ => ?_) (fun c => absurd (show (1 : Int32) = 0 from c) (by decide))
      refine c_testRest20_12_39 (p := p.1) hT hk hPo p2 (x_fk_t f1 (x_fk_10 (by decide) p1)) (by rw [p1.1 _ (by decide)]; exact e2) p3 (fun _ => rfl) ?_
      rw [y_tst_w d24 (Or.inr (Or.inr rfl)) (o := 20) (by decide) (hi := 9999) (by decide), y_obj_24, e1]
      rfl
  have hY : y_tst a m N (v 2 0 0) (v 1 0 0) q = .inl (y_fl a m q 2) := by
    unfold y_tst
    rw [if_neg (fun h => h.elim d22 (fun h => h.elim d23 d24))]
  refine x_wp_ok ok65 [] 6 ?_
  refine And.intro (fun c => absurd ((y_tr_eq a m q (w := 22) (by decide)).mp c) d22) (fun _ => ?_)
  refine And.intro (fun c => absurd ((y_tr_eq a m q (w := 23) (by decide)).mp c) d23) (fun _ => ?_)
  refine And.intro (fun c => absurd ((y_tr_eq a m q (w := 24) (by decide)).mp c) d24) (fun _ => ?_)
  refine Exists.intro _ (And.intro (c_fail (k := 2) hR) (And.intro (And.intro (Nat.zero_le _) (Nat.zero_le _)) (fun zq h' hpo => ?_)))
  obtain ⟨rfl, F1, rfl, u1, u2⟩ := hpo
  refine And.intro ?_ ⟨Or.inl rfl, Nat.le_refl _, Nat.le_refl _⟩
  rw [hPo]
  exact x_PO5_L hY (x_fk_10 (by decide) u1) u2
theorem c_testRest18_22_32 {q2 p : Nat} {ob : Int32} {Po : Option Value → xH → Prop} (hT : y_TP a m) (hk : k < 60) (hPo : Po = x_PO5 39 k a m f g (x_HR 22 32) dm n X) (hR : x_RC a m q2 F G) (hf : x_fk 39 k f g F G) (h2 : F 41 k = 19) (h9 : F 10 9 = ob) (hob : 18 ≠ 18 → ob = nI p) (hY : X = if y_tk a m q2 = 60 ∨ y_tk a m q2 = 62 ∨ y_tk a m q2 = 61 then y_bd (y_nbr a m 0 999 (y_nxt a m q2)) (fun x => .inr ((18, p, 0, x.1, (y_tk a m q2).toNatClampNeg), x.2)) else .inl (y_fl a m q2 2)) : x_J 65 (d + 3) Po 107 [some (.ref 610), some (.int (nI k)), some (.int 19), none] [] (F, G, x_HR 22 32, dm, n) 0 0 := by
  refine x_wp_ok ok65 [131] 6 ?_
  refine And.intro (x_ix_nI (by omega) (by omega)) ?_
  rw [nI_clamp (by omega)]
  obtain ⟨F1, hF1⟩ : ∃ F1, F1 = x_up F 42 k (F 10 9) := ⟨_, rfl⟩
  have r1 : x_RC a m q2 F1 G := by
    rw [hF1]
    exact x_RC_up (by decide) hR
  have f1 : x_fk 39 k f g F1 G := by
    rw [hF1]
    exact x_fk_t hf (x_fk_up (Or.inr (Or.inl rfl)))
  show x_J 65 (d + 3) Po 131 [some (.ref 610), some (.int (nI k)), some (.int 19), some (.int (x_up F 42 k (F 10 9) 10 4))] [] (x_up F 42 k (F 10 9), G, x_HR 22 32, dm, n) 0 0
  rw [← hF1, r1.2.2.2.1]
  have e3 : F1 42 k = ob := by
    rw [hF1, x_up_s]
    exact h9
  have e2 : F1 41 k = 19 := by
    rw [hF1, x_up_k (by decide)]
    exact h2
  have go : (y_tk a m q2 = 60 ∨ y_tk a m q2 = 62 ∨ y_tk a m q2 = 61) → x_J 65 (d + 3) Po 158 [some (.ref 610), some (.int (nI k)), some (.int 19), some (.int (y_tk a m q2))] [] (F1, G, x_HR 22 32, dm, n) 0 0 := by
    intro hs
    have hsa : y_sa a m q2 ≠ 3 ∧ y_sa a m q2 ≠ 4 := by
      rcases hs with h | h | h <;> rw [y_tk_sa h (by decide)] <;> decide
    rw [if_pos hs] at hY
    have hcl : y_tk a m q2 = nI (y_tk a m q2).toNatClampNeg := by
      rcases hs with h | h | h <;> rw [h] <;> rfl
    refine x_wp_ok ok65 [] 6 ?_
    refine And.intro (x_ix_nI (by omega) (by omega)) ?_
    rw [nI_clamp (by omega)]
    have r2 : x_RC a m q2 (x_up F1 44 k (y_tk a m q2)) G := x_RC_up (by decide) r1
    refine Exists.intro _ (And.intro (c_adv hT r2 hsa.1 hsa.2) (And.intro (And.intro (Nat.zero_le _) (Nat.zero_le _)) (fun zq h' hpo => ?_)))
    obtain ⟨rfl, F2, G2, rfl, w1, -, w3⟩ := hpo
    refine And.intro (fun c => absurd rfl c) (fun _ => ?_)
    refine Exists.intro _ (And.intro (c_takeNumber (lo := 0) (hi := 999) (by decide) (by decide) hT w3) (And.intro (And.intro (Nat.zero_le _) (Nat.zero_le _)) (fun zq h' hpo => ?_)))
    have fr : x_fk 39 k f g F2 G2 := x_fk_t f1 (x_fk_t (x_fk_up (Or.inr (Or.inr rfl))) (x_fk_10 (by decide) w1))
    cases e4 : y_nbr a m 0 999 (y_nxt a m q2) with
    | inl e =>
      obtain ⟨rfl, F3, G3, rfl, p1, p2⟩ := x_PT_l e4 hpo
      refine And.intro ?_ ⟨Or.inl rfl, Nat.le_refl _, Nat.le_refl _⟩
      rw [hPo]
      refine x_PO5_L ?_ (x_fk_t fr (x_fk_10 (by decide) p1)) p2
      rw [hY, e4]
      rfl
    | inr x =>
      obtain ⟨rfl, F3, G3, rfl, p1, p2, p3⟩ := x_PT_r e4 hpo
      refine And.intro ?_ ⟨Or.inr rfl, Nat.le_refl _, Nat.le_refl _⟩
      rw [hPo]
      refine x_PO5_R (w := ((18, p, 0, x.1, (y_tk a m q2).toNatClampNeg), x.2)) ?_ (x_fk_t fr (x_fk_10 (by decide) p1)) p2 ⟨fun h => absurd (show (18 : Nat) ≤ 15 from h) (by decide), fun _ => ⟨?_, fun ho => ?_, ?_⟩, fun _ _ => p3⟩
      · rw [hY, e4]
        rfl
      · rw [p1.1 _ (by decide), w1.1 _ (by decide), x_up_k (by decide)]
        exact e2
      · rw [p1.1 _ (by decide), w1.1 _ (by decide), x_up_k (by decide)]
        exact e3.trans (hob ho)
      · rw [p1.1 _ (by decide), w1.1 _ (by decide), x_up_s]
        exact hcl
  refine x_wp_ok ok65 [158] 6 ?_
  refine And.intro (fun c => go (Or.inl c)) (fun c60 => ?_)
  have c60 : ¬ y_tk a m q2 = 60 := c60
  refine And.intro (fun c => go (Or.inr (Or.inl c))) (fun c62 => ?_)
  have c62 : ¬ y_tk a m q2 = 62 := c62
  refine And.intro (fun c => go (Or.inr (Or.inr c))) (fun c61 => ?_)
  have c61 : ¬ y_tk a m q2 = 61 := c61
  rw [if_neg (fun h => h.elim c60 (fun h => h.elim c62 c61))] at hY
  refine Exists.intro _ (And.intro (c_fail (k := 2) r1) (And.intro (And.intro (Nat.zero_le _) (Nat.zero_le _)) (fun zq h' hpo => ?_)))
  obtain ⟨rfl, F2, rfl, w1, w2⟩ := hpo
  refine And.intro ?_ ⟨Or.inl rfl, Nat.le_refl _, Nat.le_refl _⟩
  rw [hPo]
  exact x_PO5_L hY (x_fk_t f1 (x_fk_10 (by decide) w1)) w2
theorem c_testRest19_22_32 {q2 p : Nat} {ob : Int32} {Po : Option Value → xH → Prop} (hT : y_TP a m) (hk : k < 60) (hPo : Po = x_PO5 39 k a m f g (x_HR 22 32) dm n X) (hR : x_RC a m q2 F G) (hf : x_fk 39 k f g F G) (h2 : F 41 k = 20) (h9 : F 10 9 = ob) (hob : 19 ≠ 18 → ob = nI p) (hY : X = if y_tk a m q2 = 60 ∨ y_tk a m q2 = 62 ∨ y_tk a m q2 = 61 then y_bd (y_nbr a m 0 9999 (y_nxt a m q2)) (fun x => .inr ((19, p, 0, x.1, (y_tk a m q2).toNatClampNeg), x.2)) else .inl (y_fl a m q2 2)) : x_J 65 (d + 3) Po 107 [some (.ref 610), some (.int (nI k)), some (.int 20), none] [] (F, G, x_HR 22 32, dm, n) 0 0 := by
  refine x_wp_ok ok65 [131] 6 ?_
  refine And.intro (x_ix_nI (by omega) (by omega)) ?_
  rw [nI_clamp (by omega)]
  obtain ⟨F1, hF1⟩ : ∃ F1, F1 = x_up F 42 k (F 10 9) := ⟨_, rfl⟩
  have r1 : x_RC a m q2 F1 G := by
    rw [hF1]
    exact x_RC_up (by decide) hR
  have f1 : x_fk 39 k f g F1 G := by
    rw [hF1]
    exact x_fk_t hf (x_fk_up (Or.inr (Or.inl rfl)))
  show x_J 65 (d + 3) Po 131 [some (.ref 610), some (.int (nI k)), some (.int 20), some (.int (x_up F 42 k (F 10 9) 10 4))] [] (x_up F 42 k (F 10 9), G, x_HR 22 32, dm, n) 0 0
  rw [← hF1, r1.2.2.2.1]
  have e3 : F1 42 k = ob := by
    rw [hF1, x_up_s]
    exact h9
  have e2 : F1 41 k = 20 := by
    rw [hF1, x_up_k (by decide)]
    exact h2
  have go : (y_tk a m q2 = 60 ∨ y_tk a m q2 = 62 ∨ y_tk a m q2 = 61) → x_J 65 (d + 3) Po 158 [some (.ref 610), some (.int (nI k)), some (.int 20), some (.int (y_tk a m q2))] [] (F1, G, x_HR 22 32, dm, n) 0 0 := by
    intro hs
    have hsa : y_sa a m q2 ≠ 3 ∧ y_sa a m q2 ≠ 4 := by
      rcases hs with h | h | h <;> rw [y_tk_sa h (by decide)] <;> decide
    rw [if_pos hs] at hY
    have hcl : y_tk a m q2 = nI (y_tk a m q2).toNatClampNeg := by
      rcases hs with h | h | h <;> rw [h] <;> rfl
    refine x_wp_ok ok65 [] 6 ?_
    refine And.intro (x_ix_nI (by omega) (by omega)) ?_
    rw [nI_clamp (by omega)]
    have r2 : x_RC a m q2 (x_up F1 44 k (y_tk a m q2)) G := x_RC_up (by decide) r1
    refine Exists.intro _ (And.intro (c_adv hT r2 hsa.1 hsa.2) (And.intro (And.intro (Nat.zero_le _) (Nat.zero_le _)) (fun zq h' hpo => ?_)))
    obtain ⟨rfl, F2, G2, rfl, w1, -, w3⟩ := hpo
    refine And.intro (fun _ => ?_) (fun c => absurd c (by decide))
    refine Exists.intro _ (And.intro (c_takeNumber (lo := 0) (hi := 9999) (by decide) (by decide) hT w3) (And.intro (And.intro (Nat.zero_le _) (Nat.zero_le _)) (fun zq h' hpo => ?_)))
    have fr : x_fk 39 k f g F2 G2 := x_fk_t f1 (x_fk_t (x_fk_up (Or.inr (Or.inr rfl))) (x_fk_10 (by decide) w1))
    cases e4 : y_nbr a m 0 9999 (y_nxt a m q2) with
    | inl e =>
      obtain ⟨rfl, F3, G3, rfl, p1, p2⟩ := x_PT_l e4 hpo
      refine And.intro ?_ ⟨Or.inl rfl, Nat.le_refl _, Nat.le_refl _⟩
      rw [hPo]
      refine x_PO5_L ?_ (x_fk_t fr (x_fk_10 (by decide) p1)) p2
      rw [hY, e4]
      rfl
    | inr x =>
      obtain ⟨rfl, F3, G3, rfl, p1, p2, p3⟩ := x_PT_r e4 hpo
      refine And.intro ?_ ⟨Or.inr rfl, Nat.le_refl _, Nat.le_refl _⟩
      rw [hPo]
      refine x_PO5_R (w := ((19, p, 0, x.1, (y_tk a m q2).toNatClampNeg), x.2)) ?_ (x_fk_t fr (x_fk_10 (by decide) p1)) p2 ⟨fun h => absurd (show (19 : Nat) ≤ 15 from h) (by decide), fun _ => ⟨?_, fun ho => ?_, ?_⟩, fun _ _ => p3⟩
      · rw [hY, e4]
        rfl
      · rw [p1.1 _ (by decide), w1.1 _ (by decide), x_up_k (by decide)]
        exact e2
      · rw [p1.1 _ (by decide), w1.1 _ (by decide), x_up_k (by decide)]
        exact e3.trans (hob ho)
      · rw [p1.1 _ (by decide), w1.1 _ (by decide), x_up_s]
        exact hcl
  refine x_wp_ok ok65 [158] 6 ?_
  refine And.intro (fun c => go (Or.inl c)) (fun c60 => ?_)
  have c60 : ¬ y_tk a m q2 = 60 := c60
  refine And.intro (fun c => go (Or.inr (Or.inl c))) (fun c62 => ?_)
  have c62 : ¬ y_tk a m q2 = 62 := c62
  refine And.intro (fun c => go (Or.inr (Or.inr c))) (fun c61 => ?_)
  have c61 : ¬ y_tk a m q2 = 61 := c61
  rw [if_neg (fun h => h.elim c60 (fun h => h.elim c62 c61))] at hY
  refine Exists.intro _ (And.intro (c_fail (k := 2) r1) (And.intro (And.intro (Nat.zero_le _) (Nat.zero_le _)) (fun zq h' hpo => ?_)))
  obtain ⟨rfl, F2, rfl, w1, w2⟩ := hpo
  refine And.intro ?_ ⟨Or.inl rfl, Nat.le_refl _, Nat.le_refl _⟩
  rw [hPo]
  exact x_PO5_L hY (x_fk_t f1 (x_fk_10 (by decide) w1)) w2
theorem c_testRest20_22_32 {q2 p : Nat} {ob : Int32} {Po : Option Value → xH → Prop} (hT : y_TP a m) (hk : k < 60) (hPo : Po = x_PO5 39 k a m f g (x_HR 22 32) dm n X) (hR : x_RC a m q2 F G) (hf : x_fk 39 k f g F G) (h2 : F 41 k = 21) (h9 : F 10 9 = ob) (hob : 20 ≠ 18 → ob = nI p) (hY : X = if y_tk a m q2 = 60 ∨ y_tk a m q2 = 62 ∨ y_tk a m q2 = 61 then y_bd (y_nbr a m 0 9999 (y_nxt a m q2)) (fun x => .inr ((20, p, 0, x.1, (y_tk a m q2).toNatClampNeg), x.2)) else .inl (y_fl a m q2 2)) : x_J 65 (d + 3) Po 107 [some (.ref 610), some (.int (nI k)), some (.int 21), none] [] (F, G, x_HR 22 32, dm, n) 0 0 := by
  refine x_wp_ok ok65 [131] 6 ?_
  refine And.intro (x_ix_nI (by omega) (by omega)) ?_
  rw [nI_clamp (by omega)]
  obtain ⟨F1, hF1⟩ : ∃ F1, F1 = x_up F 42 k (F 10 9) := ⟨_, rfl⟩
  have r1 : x_RC a m q2 F1 G := by
    rw [hF1]
    exact x_RC_up (by decide) hR
  have f1 : x_fk 39 k f g F1 G := by
    rw [hF1]
    exact x_fk_t hf (x_fk_up (Or.inr (Or.inl rfl)))
  show x_J 65 (d + 3) Po 131 [some (.ref 610), some (.int (nI k)), some (.int 21), some (.int (x_up F 42 k (F 10 9) 10 4))] [] (x_up F 42 k (F 10 9), G, x_HR 22 32, dm, n) 0 0
  rw [← hF1, r1.2.2.2.1]
  have e3 : F1 42 k = ob := by
    rw [hF1, x_up_s]
    exact h9
  have e2 : F1 41 k = 21 := by
    rw [hF1, x_up_k (by decide)]
    exact h2
  have go : (y_tk a m q2 = 60 ∨ y_tk a m q2 = 62 ∨ y_tk a m q2 = 61) → x_J 65 (d + 3) Po 158 [some (.ref 610), some (.int (nI k)), some (.int 21), some (.int (y_tk a m q2))] [] (F1, G, x_HR 22 32, dm, n) 0 0 := by
    intro hs
    have hsa : y_sa a m q2 ≠ 3 ∧ y_sa a m q2 ≠ 4 := by
      rcases hs with h | h | h <;> rw [y_tk_sa h (by decide)] <;> decide
    rw [if_pos hs] at hY
    have hcl : y_tk a m q2 = nI (y_tk a m q2).toNatClampNeg := by
      rcases hs with h | h | h <;> rw [h] <;> rfl
    refine x_wp_ok ok65 [] 6 ?_
    refine And.intro (x_ix_nI (by omega) (by omega)) ?_
    rw [nI_clamp (by omega)]
    have r2 : x_RC a m q2 (x_up F1 44 k (y_tk a m q2)) G := x_RC_up (by decide) r1
    refine Exists.intro _ (And.intro (c_adv hT r2 hsa.1 hsa.2) (And.intro (And.intro (Nat.zero_le _) (Nat.zero_le _)) (fun zq h' hpo => ?_)))
    obtain ⟨rfl, F2, G2, rfl, w1, -, w3⟩ := hpo
    refine And.intro (fun _ => ?_) (fun c => absurd c (by decide))
    refine Exists.intro _ (And.intro (c_takeNumber (lo := 0) (hi := 9999) (by decide) (by decide) hT w3) (And.intro (And.intro (Nat.zero_le _) (Nat.zero_le _)) (fun zq h' hpo => ?_)))
    have fr : x_fk 39 k f g F2 G2 := x_fk_t f1 (x_fk_t (x_fk_up (Or.inr (Or.inr rfl))) (x_fk_10 (by decide) w1))
    cases e4 : y_nbr a m 0 9999 (y_nxt a m q2) with
    | inl e =>
      obtain ⟨rfl, F3, G3, rfl, p1, p2⟩ := x_PT_l e4 hpo
      refine And.intro ?_ ⟨Or.inl rfl, Nat.le_refl _, Nat.le_refl _⟩
      rw [hPo]
      refine x_PO5_L ?_ (x_fk_t fr (x_fk_10 (by decide) p1)) p2
      rw [hY, e4]
      rfl
    | inr x =>
      obtain ⟨rfl, F3, G3, rfl, p1, p2, p3⟩ := x_PT_r e4 hpo
      refine And.intro ?_ ⟨Or.inr rfl, Nat.le_refl _, Nat.le_refl _⟩
      rw [hPo]
      refine x_PO5_R (w := ((20, p, 0, x.1, (y_tk a m q2).toNatClampNeg), x.2)) ?_ (x_fk_t fr (x_fk_10 (by decide) p1)) p2 ⟨fun h => absurd (show (20 : Nat) ≤ 15 from h) (by decide), fun _ => ⟨?_, fun ho => ?_, ?_⟩, fun _ _ => p3⟩
      · rw [hY, e4]
        rfl
      · rw [p1.1 _ (by decide), w1.1 _ (by decide), x_up_k (by decide)]
        exact e2
      · rw [p1.1 _ (by decide), w1.1 _ (by decide), x_up_k (by decide)]
        exact e3.trans (hob ho)
      · rw [p1.1 _ (by decide), w1.1 _ (by decide), x_up_s]
        exact hcl
  refine x_wp_ok ok65 [158] 6 ?_
  refine And.intro (fun c => go (Or.inl c)) (fun c60 => ?_)
  have c60 : ¬ y_tk a m q2 = 60 := c60
  refine And.intro (fun c => go (Or.inr (Or.inl c))) (fun c62 => ?_)
  have c62 : ¬ y_tk a m q2 = 62 := c62
  refine And.intro (fun c => go (Or.inr (Or.inr c))) (fun c61 => ?_)
  have c61 : ¬ y_tk a m q2 = 61 := c61
  rw [if_neg (fun h => h.elim c60 (fun h => h.elim c62 c61))] at hY
  refine Exists.intro _ (And.intro (c_fail (k := 2) r1) (And.intro (And.intro (Nat.zero_le _) (Nat.zero_le _)) (fun zq h' hpo => ?_)))
  obtain ⟨rfl, F2, rfl, w1, w2⟩ := hpo
  refine And.intro ?_ ⟨Or.inl rfl, Nat.le_refl _, Nat.le_refl _⟩
  rw [hPo]
  exact x_PO5_L hY (x_fk_t f1 (x_fk_10 (by decide) w1)) w2
theorem c_readTest_22_32 (hT : y_TP a m) (hq : q ≤ m) (hk : k < 60) (hR : x_RC a m q f g) (h1 : f 22 1 = nI (v 1 0 0)) (h2 : f 22 2 = nI (v 2 0 0)) (b1 : v 1 0 0 ≤ 5) (b2 : v 2 0 0 ≤ 5) (hN : y_NR (g 24) v N) : x_Ct 65 (d + 3) [.ref 610, .int (nI k)] (f, g, x_HR 22 32, dm, n) (x_PO5 39 k a m f g (x_HR 22 32) dm n (y_tst a m N (v 2 0 0) (v 1 0 0) q)) := by
  obtain ⟨Po, hPo⟩ : ∃ Po : Option Value → xH → Prop, Po = x_PO5 39 k a m f g (x_HR 22 32) dm n (y_tst a m N (v 2 0 0) (v 1 0 0) q) := ⟨_, rfl⟩
  rw [← hPo]
  refine x_Ct_w (by decide) (Nat.le_of_ble_eq_true rfl) ok65 [8] 6 ?_
  show x_J 65 (d + 3) Po 8 [some (.ref 610), some (.int (nI k)), some (.int (f 10 7)), none] [] (f, g, x_HR 22 32, dm, n) 0 0
  rw [hR.2.2.2.2.1]
  have one : ∀ j, j < 25 → y_wm a m q = nI j → y_sa a m q = 1 := by
    intro j hj h
    have no : ∀ j, j < 25 → ¬ nI j = -1 := by decide +kernel
    exact y_wm_sa (by rw [h]; exact no j hj)
  by_cases d22 : y_wm a m q = 22
  · have hs := one 22 (by decide) d22
    have hn := y_nxt_gt (a := a) (m := m) (q := q) (by rw [hs]; decide)
    rw [d22]
    refine x_wp_ok ok65 [107] 6 ?_
    refine And.intro (fun _ => ?_) (fun c => absurd rfl c)
    refine And.intro (x_ix_nI (by omega) (by omega)) ?_
    rw [nI_clamp (by omega)]
    have r1 : x_RC a m q (x_up (x_up f 41 k 19) 10 9 (-1)) g := ⟨(x_up_k (by decide)).trans ((x_up_k (by decide)).trans hR.1), hR.2⟩
    refine Exists.intro _ (And.intro (c_adv hT r1 (by rw [hs]; decide) (by rw [hs]; decide)) (And.intro (And.intro (Nat.zero_le _) (Nat.zero_le _)) (fun zq h' hpo => ?_)))
    obtain ⟨rfl, F1, G1, rfl, w1, w2, w3⟩ := hpo
    refine And.intro (fun _ => ?_) (fun c => absurd c (by decide))
    refine And.intro (fun _ => ?_) (fun c => absurd c (by decide))
    refine c_testRest18_22_32 (p := 0) hT hk hPo w3 (x_fk_t (x_fk_up (Or.inl rfl)) (x_fk_t (x_fk_9 (by decide)) (x_fk_10 (by decide) w1))) ?_ rfl (fun h => absurd rfl h) ?_
    · rw [w1.1 _ (by decide), x_up_k (by decide), x_up_s]
      rfl
    · rw [y_tst_w d22 (Or.inl rfl) (o := 18) (by decide) (hi := 999) (by decide), y_obj_22]
      rfl
  by_cases d23 : y_wm a m q = 23
  · have hs := one 23 (by decide) d23
    have hn := y_nxt_gt (a := a) (m := m) (q := q) (by rw [hs]; decide)
    rw [d23]
    refine x_wp_ok ok65 [107] 6 ?_
    refine And.intro (fun c => absurd c (by decide)) (fun _ => ?_)
    refine And.intro (fun _ => ?_) (fun c => absurd rfl c)
    refine And.intro (x_ix_nI (by omega) (by omega)) ?_
    rw [nI_clamp (by omega)]
    have r1 : x_RC a m q (x_up (x_up f 41 k 20) 10 9 (-1)) g := ⟨(x_up_k (by decide)).trans ((x_up_k (by decide)).trans hR.1), hR.2⟩
    refine Exists.intro _ (And.intro (c_adv hT r1 (by rw [hs]; decide) (by rw [hs]; decide)) (And.intro (And.intro (Nat.zero_le _) (Nat.zero_le _)) (fun zq h' hpo => ?_)))
    obtain ⟨rfl, F1, G1, rfl, w1, w2, w3⟩ := hpo
    have f1 : x_fk 39 k f g F1 G1 := x_fk_t (x_fk_up (Or.inl rfl)) (x_fk_t (x_fk_9 (by decide)) (x_fk_10 (by decide) w1))
    have e2 : F1 41 k = 20 := by
      rw [w1.1 _ (by decide), x_up_k (by decide), x_up_s]
      rfl
    refine And.intro (fun c => absurd rfl c) (fun _ => ?_)
    refine Exists.intro _ (And.intro (c_takeOldName_22_9 (N := N) (M := v 2 0 0) hT hn.2 w3 (by rw [w1.1 22 (by decide), x_up_k (by decide), x_up_k (by decide)]; exact h2) b2 (by rw [w1.2 24 (by decide)]; exact y_NR_9 hN _)) (And.intro (And.intro (Nat.zero_le _) (Nat.zero_le _)) (fun zq h' hpo => ?_)))
    cases e1 : y_old a m N 9 (v 2 0 0) (y_nxt a m q) with
    | inl e =>
      obtain ⟨rfl, F2, G2, rfl, p1, p2⟩ := x_PT_l e1 hpo
      refine And.intro (fun c => absurd rfl c) (fun _ => ?_)
      refine And.intro ?_ ⟨Or.inl rfl, Nat.le_refl _, Nat.le_refl _⟩
      rw [hPo]
      refine x_PO5_L ?_ (x_fk_t f1 (x_fk_10 (by decide) p1)) p2
      rw [y_tst_w d23 (Or.inr (Or.inl rfl)) (o := 19) (by decide) (hi := 9999) (by decide), y_obj_23, e1]
      rfl
    | inr p =>
      obtain ⟨rfl, F2, G2, rfl, p1, p2, p3⟩ := x_PT_r e1 hpo
      refine And.intro (fun _ => ?_) (fun c => absurd (show (1 : Int32) = 0 from c) (by decide))
      refine And.intro (fun _ => ?_) (fun c => absurd c (by decide))
      refine c_testRest19_22_32 (p := p.1) hT hk hPo p2 (x_fk_t f1 (x_fk_10 (by decide) p1)) (by rw [p1.1 _ (by decide)]; exact e2) p3 (fun _ => rfl) ?_
      rw [y_tst_w d23 (Or.inr (Or.inl rfl)) (o := 19) (by decide) (hi := 9999) (by decide), y_obj_23, e1]
      rfl
  by_cases d24 : y_wm a m q = 24
  · have hs := one 24 (by decide) d24
    have hn := y_nxt_gt (a := a) (m := m) (q := q) (by rw [hs]; decide)
    rw [d24]
    refine x_wp_ok ok65 [107] 6 ?_
    refine And.intro (fun c => absurd c (by decide)) (fun _ => ?_)
    refine And.intro (fun c => absurd c (by decide)) (fun _ => ?_)
    refine And.intro (fun _ => ?_) (fun c => absurd rfl c)
    refine And.intro (x_ix_nI (by omega) (by omega)) ?_
    rw [nI_clamp (by omega)]
    have r1 : x_RC a m q (x_up (x_up f 41 k 21) 10 9 (-1)) g := ⟨(x_up_k (by decide)).trans ((x_up_k (by decide)).trans hR.1), hR.2⟩
    refine Exists.intro _ (And.intro (c_adv hT r1 (by rw [hs]; decide) (by rw [hs]; decide)) (And.intro (And.intro (Nat.zero_le _) (Nat.zero_le _)) (fun zq h' hpo => ?_)))
    obtain ⟨rfl, F1, G1, rfl, w1, w2, w3⟩ := hpo
    have f1 : x_fk 39 k f g F1 G1 := x_fk_t (x_fk_up (Or.inl rfl)) (x_fk_t (x_fk_9 (by decide)) (x_fk_10 (by decide) w1))
    have e2 : F1 41 k = 21 := by
      rw [w1.1 _ (by decide), x_up_k (by decide), x_up_s]
      rfl
    refine And.intro (fun _ => ?_) (fun c => absurd c (by decide))
    refine And.intro (fun c => absurd rfl c) (fun _ => ?_)
    refine Exists.intro _ (And.intro (c_takeOldName_22_4 (N := N) (M := v 1 0 0) hT hn.2 w3 (by rw [w1.1 22 (by decide), x_up_k (by decide), x_up_k (by decide)]; exact h1) b1 (by rw [w1.2 24 (by decide)]; exact y_NR_4 hN _)) (And.intro (And.intro (Nat.zero_le _) (Nat.zero_le _)) (fun zq h' hpo => ?_)))
    cases e1 : y_old a m N 4 (v 1 0 0) (y_nxt a m q) with
    | inl e =>
      obtain ⟨rfl, F2, G2, rfl, p1, p2⟩ := x_PT_l e1 hpo
      refine And.intro (fun c => absurd rfl c) (fun _ => ?_)
      refine And.intro ?_ ⟨Or.inl rfl, Nat.le_refl _, Nat.le_refl _⟩
      rw [hPo]
      refine x_PO5_L ?_ (x_fk_t f1 (x_fk_10 (by decide) p1)) p2
      rw [y_tst_w d24 (Or.inr (Or.inr rfl)) (o := 20) (by decide) (hi := 9999) (by decide), y_obj_24, e1]
      rfl
    | inr p =>
      obtain ⟨rfl, F2, G2, rfl, p1, p2, p3⟩ := x_PT_r e1 hpo
      refine And.intro (fun _ => ?_) (fun c => absurd (show (1 : Int32) = 0 from c) (by decide))
      refine c_testRest20_22_32 (p := p.1) hT hk hPo p2 (x_fk_t f1 (x_fk_10 (by decide) p1)) (by rw [p1.1 _ (by decide)]; exact e2) p3 (fun _ => rfl) ?_
      rw [y_tst_w d24 (Or.inr (Or.inr rfl)) (o := 20) (by decide) (hi := 9999) (by decide), y_obj_24, e1]
      rfl
  have hY : y_tst a m N (v 2 0 0) (v 1 0 0) q = .inl (y_fl a m q 2) := by
    unfold y_tst
    rw [if_neg (fun h => h.elim d22 (fun h => h.elim d23 d24))]
  refine x_wp_ok ok65 [] 6 ?_
  refine And.intro (fun c => absurd ((y_tr_eq a m q (w := 22) (by decide)).mp c) d22) (fun _ => ?_)
  refine And.intro (fun c => absurd ((y_tr_eq a m q (w := 23) (by decide)).mp c) d23) (fun _ => ?_)
  refine And.intro (fun c => absurd ((y_tr_eq a m q (w := 24) (by decide)).mp c) d24) (fun _ => ?_)
  refine Exists.intro _ (And.intro (c_fail (k := 2) hR) (And.intro (And.intro (Nat.zero_le _) (Nat.zero_le _)) (fun zq h' hpo => ?_)))
  obtain ⟨rfl, F1, rfl, u1, u2⟩ := hpo
  refine And.intro ?_ ⟨Or.inl rfl, Nat.le_refl _, Nat.le_refl _⟩
  rw [hPo]
  exact x_PO5_L hY (x_fk_10 (by decide) u1) u2
theorem c_testRest18_22_39 {q2 p : Nat} {ob : Int32} {Po : Option Value → xH → Prop} (hT : y_TP a m) (hk : k < 60) (hPo : Po = x_PO5 32 k a m f g (x_HR 22 39) dm n X) (hR : x_RC a m q2 F G) (hf : x_fk 32 k f g F G) (h2 : F 34 k = 19) (h9 : F 10 9 = ob) (hob : 18 ≠ 18 → ob = nI p) (hY : X = if y_tk a m q2 = 60 ∨ y_tk a m q2 = 62 ∨ y_tk a m q2 = 61 then y_bd (y_nbr a m 0 999 (y_nxt a m q2)) (fun x => .inr ((18, p, 0, x.1, (y_tk a m q2).toNatClampNeg), x.2)) else .inl (y_fl a m q2 2)) : x_J 65 (d + 3) Po 107 [some (.ref 610), some (.int (nI k)), some (.int 19), none] [] (F, G, x_HR 22 39, dm, n) 0 0 := by
  refine x_wp_ok ok65 [131] 6 ?_
  refine And.intro (x_ix_nI (by omega) (by omega)) ?_
  rw [nI_clamp (by omega)]
  obtain ⟨F1, hF1⟩ : ∃ F1, F1 = x_up F 35 k (F 10 9) := ⟨_, rfl⟩
  have r1 : x_RC a m q2 F1 G := by
    rw [hF1]
    exact x_RC_up (by decide) hR
  have f1 : x_fk 32 k f g F1 G := by
    rw [hF1]
    exact x_fk_t hf (x_fk_up (Or.inr (Or.inl rfl)))
  show x_J 65 (d + 3) Po 131 [some (.ref 610), some (.int (nI k)), some (.int 19), some (.int (x_up F 35 k (F 10 9) 10 4))] [] (x_up F 35 k (F 10 9), G, x_HR 22 39, dm, n) 0 0
  rw [← hF1, r1.2.2.2.1]
  have e3 : F1 35 k = ob := by
    rw [hF1, x_up_s]
    exact h9
  have e2 : F1 34 k = 19 := by
    rw [hF1, x_up_k (by decide)]
    exact h2
  have go : (y_tk a m q2 = 60 ∨ y_tk a m q2 = 62 ∨ y_tk a m q2 = 61) → x_J 65 (d + 3) Po 158 [some (.ref 610), some (.int (nI k)), some (.int 19), some (.int (y_tk a m q2))] [] (F1, G, x_HR 22 39, dm, n) 0 0 := by
    intro hs
    have hsa : y_sa a m q2 ≠ 3 ∧ y_sa a m q2 ≠ 4 := by
      rcases hs with h | h | h <;> rw [y_tk_sa h (by decide)] <;> decide
    rw [if_pos hs] at hY
    have hcl : y_tk a m q2 = nI (y_tk a m q2).toNatClampNeg := by
      rcases hs with h | h | h <;> rw [h] <;> rfl
    refine x_wp_ok ok65 [] 6 ?_
    refine And.intro (x_ix_nI (by omega) (by omega)) ?_
    rw [nI_clamp (by omega)]
    have r2 : x_RC a m q2 (x_up F1 37 k (y_tk a m q2)) G := x_RC_up (by decide) r1
    refine Exists.intro _ (And.intro (c_adv hT r2 hsa.1 hsa.2) (And.intro (And.intro (Nat.zero_le _) (Nat.zero_le _)) (fun zq h' hpo => ?_)))
    obtain ⟨rfl, F2, G2, rfl, w1, -, w3⟩ := hpo
    refine And.intro (fun c => absurd rfl c) (fun _ => ?_)
    refine Exists.intro _ (And.intro (c_takeNumber (lo := 0) (hi := 999) (by decide) (by decide) hT w3) (And.intro (And.intro (Nat.zero_le _) (Nat.zero_le _)) (fun zq h' hpo => ?_)))
    have fr : x_fk 32 k f g F2 G2 := x_fk_t f1 (x_fk_t (x_fk_up (Or.inr (Or.inr rfl))) (x_fk_10 (by decide) w1))
    cases e4 : y_nbr a m 0 999 (y_nxt a m q2) with
    | inl e =>
      obtain ⟨rfl, F3, G3, rfl, p1, p2⟩ := x_PT_l e4 hpo
      refine And.intro ?_ ⟨Or.inl rfl, Nat.le_refl _, Nat.le_refl _⟩
      rw [hPo]
      refine x_PO5_L ?_ (x_fk_t fr (x_fk_10 (by decide) p1)) p2
      rw [hY, e4]
      rfl
    | inr x =>
      obtain ⟨rfl, F3, G3, rfl, p1, p2, p3⟩ := x_PT_r e4 hpo
      refine And.intro ?_ ⟨Or.inr rfl, Nat.le_refl _, Nat.le_refl _⟩
      rw [hPo]
      refine x_PO5_R (w := ((18, p, 0, x.1, (y_tk a m q2).toNatClampNeg), x.2)) ?_ (x_fk_t fr (x_fk_10 (by decide) p1)) p2 ⟨fun h => absurd (show (18 : Nat) ≤ 15 from h) (by decide), fun _ => ⟨?_, fun ho => ?_, ?_⟩, fun _ _ => p3⟩
      · rw [hY, e4]
        rfl
      · rw [p1.1 _ (by decide), w1.1 _ (by decide), x_up_k (by decide)]
        exact e2
      · rw [p1.1 _ (by decide), w1.1 _ (by decide), x_up_k (by decide)]
        exact e3.trans (hob ho)
      · rw [p1.1 _ (by decide), w1.1 _ (by decide), x_up_s]
        exact hcl
  refine x_wp_ok ok65 [158] 6 ?_
  refine And.intro (fun c => go (Or.inl c)) (fun c60 => ?_)
  have c60 : ¬ y_tk a m q2 = 60 := c60
  refine And.intro (fun c => go (Or.inr (Or.inl c))) (fun c62 => ?_)
  have c62 : ¬ y_tk a m q2 = 62 := c62
  refine And.intro (fun c => go (Or.inr (Or.inr c))) (fun c61 => ?_)
  have c61 : ¬ y_tk a m q2 = 61 := c61
  rw [if_neg (fun h => h.elim c60 (fun h => h.elim c62 c61))] at hY
  refine Exists.intro _ (And.intro (c_fail (k := 2) r1) (And.intro (And.intro (Nat.zero_le _) (Nat.zero_le _)) (fun zq h' hpo => ?_)))
  obtain ⟨rfl, F2, rfl, w1, w2⟩ := hpo
  refine And.intro ?_ ⟨Or.inl rfl, Nat.le_refl _, Nat.le_refl _⟩
  rw [hPo]
  exact x_PO5_L hY (x_fk_t f1 (x_fk_10 (by decide) w1)) w2
theorem c_testRest19_22_39 {q2 p : Nat} {ob : Int32} {Po : Option Value → xH → Prop} (hT : y_TP a m) (hk : k < 60) (hPo : Po = x_PO5 32 k a m f g (x_HR 22 39) dm n X) (hR : x_RC a m q2 F G) (hf : x_fk 32 k f g F G) (h2 : F 34 k = 20) (h9 : F 10 9 = ob) (hob : 19 ≠ 18 → ob = nI p) (hY : X = if y_tk a m q2 = 60 ∨ y_tk a m q2 = 62 ∨ y_tk a m q2 = 61 then y_bd (y_nbr a m 0 9999 (y_nxt a m q2)) (fun x => .inr ((19, p, 0, x.1, (y_tk a m q2).toNatClampNeg), x.2)) else .inl (y_fl a m q2 2)) : x_J 65 (d + 3) Po 107 [some (.ref 610), some (.int (nI k)), some (.int 20), none] [] (F, G, x_HR 22 39, dm, n) 0 0 := by
  refine x_wp_ok ok65 [131] 6 ?_
  refine And.intro (x_ix_nI (by omega) (by omega)) ?_
  rw [nI_clamp (by omega)]
  obtain ⟨F1, hF1⟩ : ∃ F1, F1 = x_up F 35 k (F 10 9) := ⟨_, rfl⟩
  have r1 : x_RC a m q2 F1 G := by
    rw [hF1]
    exact x_RC_up (by decide) hR
  have f1 : x_fk 32 k f g F1 G := by
    rw [hF1]
    exact x_fk_t hf (x_fk_up (Or.inr (Or.inl rfl)))
  show x_J 65 (d + 3) Po 131 [some (.ref 610), some (.int (nI k)), some (.int 20), some (.int (x_up F 35 k (F 10 9) 10 4))] [] (x_up F 35 k (F 10 9), G, x_HR 22 39, dm, n) 0 0
  rw [← hF1, r1.2.2.2.1]
  have e3 : F1 35 k = ob := by
    rw [hF1, x_up_s]
    exact h9
  have e2 : F1 34 k = 20 := by
    rw [hF1, x_up_k (by decide)]
    exact h2
  have go : (y_tk a m q2 = 60 ∨ y_tk a m q2 = 62 ∨ y_tk a m q2 = 61) → x_J 65 (d + 3) Po 158 [some (.ref 610), some (.int (nI k)), some (.int 20), some (.int (y_tk a m q2))] [] (F1, G, x_HR 22 39, dm, n) 0 0 := by
    intro hs
    have hsa : y_sa a m q2 ≠ 3 ∧ y_sa a m q2 ≠ 4 := by
      rcases hs with h | h | h <;> rw [y_tk_sa h (by decide)] <;> decide
    rw [if_pos hs] at hY
    have hcl : y_tk a m q2 = nI (y_tk a m q2).toNatClampNeg := by
      rcases hs with h | h | h <;> rw [h] <;> rfl
    refine x_wp_ok ok65 [] 6 ?_
    refine And.intro (x_ix_nI (by omega) (by omega)) ?_
    rw [nI_clamp (by omega)]
    have r2 : x_RC a m q2 (x_up F1 37 k (y_tk a m q2)) G := x_RC_up (by decide) r1
    refine Exists.intro _ (And.intro (c_adv hT r2 hsa.1 hsa.2) (And.intro (And.intro (Nat.zero_le _) (Nat.zero_le _)) (fun zq h' hpo => ?_)))
    obtain ⟨rfl, F2, G2, rfl, w1, -, w3⟩ := hpo
    refine And.intro (fun _ => ?_) (fun c => absurd c (by decide))
    refine Exists.intro _ (And.intro (c_takeNumber (lo := 0) (hi := 9999) (by decide) (by decide) hT w3) (And.intro (And.intro (Nat.zero_le _) (Nat.zero_le _)) (fun zq h' hpo => ?_)))
    have fr : x_fk 32 k f g F2 G2 := x_fk_t f1 (x_fk_t (x_fk_up (Or.inr (Or.inr rfl))) (x_fk_10 (by decide) w1))
    cases e4 : y_nbr a m 0 9999 (y_nxt a m q2) with
    | inl e =>
      obtain ⟨rfl, F3, G3, rfl, p1, p2⟩ := x_PT_l e4 hpo
      refine And.intro ?_ ⟨Or.inl rfl, Nat.le_refl _, Nat.le_refl _⟩
      rw [hPo]
      refine x_PO5_L ?_ (x_fk_t fr (x_fk_10 (by decide) p1)) p2
      rw [hY, e4]
      rfl
    | inr x =>
      obtain ⟨rfl, F3, G3, rfl, p1, p2, p3⟩ := x_PT_r e4 hpo
      refine And.intro ?_ ⟨Or.inr rfl, Nat.le_refl _, Nat.le_refl _⟩
      rw [hPo]
      refine x_PO5_R (w := ((19, p, 0, x.1, (y_tk a m q2).toNatClampNeg), x.2)) ?_ (x_fk_t fr (x_fk_10 (by decide) p1)) p2 ⟨fun h => absurd (show (19 : Nat) ≤ 15 from h) (by decide), fun _ => ⟨?_, fun ho => ?_, ?_⟩, fun _ _ => p3⟩
      · rw [hY, e4]
        rfl
      · rw [p1.1 _ (by decide), w1.1 _ (by decide), x_up_k (by decide)]
        exact e2
      · rw [p1.1 _ (by decide), w1.1 _ (by decide), x_up_k (by decide)]
        exact e3.trans (hob ho)
      · rw [p1.1 _ (by decide), w1.1 _ (by decide), x_up_s]
        exact hcl
  refine x_wp_ok ok65 [158] 6 ?_
  refine And.intro (fun c => go (Or.inl c)) (fun c60 => ?_)
  have c60 : ¬ y_tk a m q2 = 60 := c60
  refine And.intro (fun c => go (Or.inr (Or.inl c))) (fun c62 => ?_)
  have c62 : ¬ y_tk a m q2 = 62 := c62
  refine And.intro (fun c => go (Or.inr (Or.inr c))) (fun c61 => ?_)
  have c61 : ¬ y_tk a m q2 = 61 := c61
  rw [if_neg (fun h => h.elim c60 (fun h => h.elim c62 c61))] at hY
  refine Exists.intro _ (And.intro (c_fail (k := 2) r1) (And.intro (And.intro (Nat.zero_le _) (Nat.zero_le _)) (fun zq h' hpo => ?_)))
  obtain ⟨rfl, F2, rfl, w1, w2⟩ := hpo
  refine And.intro ?_ ⟨Or.inl rfl, Nat.le_refl _, Nat.le_refl _⟩
  rw [hPo]
  exact x_PO5_L hY (x_fk_t f1 (x_fk_10 (by decide) w1)) w2
theorem c_testRest20_22_39 {q2 p : Nat} {ob : Int32} {Po : Option Value → xH → Prop} (hT : y_TP a m) (hk : k < 60) (hPo : Po = x_PO5 32 k a m f g (x_HR 22 39) dm n X) (hR : x_RC a m q2 F G) (hf : x_fk 32 k f g F G) (h2 : F 34 k = 21) (h9 : F 10 9 = ob) (hob : 20 ≠ 18 → ob = nI p) (hY : X = if y_tk a m q2 = 60 ∨ y_tk a m q2 = 62 ∨ y_tk a m q2 = 61 then y_bd (y_nbr a m 0 9999 (y_nxt a m q2)) (fun x => .inr ((20, p, 0, x.1, (y_tk a m q2).toNatClampNeg), x.2)) else .inl (y_fl a m q2 2)) : x_J 65 (d + 3) Po 107 [some (.ref 610), some (.int (nI k)), some (.int 21), none] [] (F, G, x_HR 22 39, dm, n) 0 0 := by
  refine x_wp_ok ok65 [131] 6 ?_
  refine And.intro (x_ix_nI (by omega) (by omega)) ?_
  rw [nI_clamp (by omega)]
  obtain ⟨F1, hF1⟩ : ∃ F1, F1 = x_up F 35 k (F 10 9) := ⟨_, rfl⟩
  have r1 : x_RC a m q2 F1 G := by
    rw [hF1]
    exact x_RC_up (by decide) hR
  have f1 : x_fk 32 k f g F1 G := by
    rw [hF1]
    exact x_fk_t hf (x_fk_up (Or.inr (Or.inl rfl)))
  show x_J 65 (d + 3) Po 131 [some (.ref 610), some (.int (nI k)), some (.int 21), some (.int (x_up F 35 k (F 10 9) 10 4))] [] (x_up F 35 k (F 10 9), G, x_HR 22 39, dm, n) 0 0
  rw [← hF1, r1.2.2.2.1]
  have e3 : F1 35 k = ob := by
    rw [hF1, x_up_s]
    exact h9
  have e2 : F1 34 k = 21 := by
    rw [hF1, x_up_k (by decide)]
    exact h2
  have go : (y_tk a m q2 = 60 ∨ y_tk a m q2 = 62 ∨ y_tk a m q2 = 61) → x_J 65 (d + 3) Po 158 [some (.ref 610), some (.int (nI k)), some (.int 21), some (.int (y_tk a m q2))] [] (F1, G, x_HR 22 39, dm, n) 0 0 := by
    intro hs
    have hsa : y_sa a m q2 ≠ 3 ∧ y_sa a m q2 ≠ 4 := by
      rcases hs with h | h | h <;> rw [y_tk_sa h (by decide)] <;> decide
    rw [if_pos hs] at hY
    have hcl : y_tk a m q2 = nI (y_tk a m q2).toNatClampNeg := by
      rcases hs with h | h | h <;> rw [h] <;> rfl
    refine x_wp_ok ok65 [] 6 ?_
    refine And.intro (x_ix_nI (by omega) (by omega)) ?_
    rw [nI_clamp (by omega)]
    have r2 : x_RC a m q2 (x_up F1 37 k (y_tk a m q2)) G := x_RC_up (by decide) r1
    refine Exists.intro _ (And.intro (c_adv hT r2 hsa.1 hsa.2) (And.intro (And.intro (Nat.zero_le _) (Nat.zero_le _)) (fun zq h' hpo => ?_)))
    obtain ⟨rfl, F2, G2, rfl, w1, -, w3⟩ := hpo
    refine And.intro (fun _ => ?_) (fun c => absurd c (by decide))
    refine Exists.intro _ (And.intro (c_takeNumber (lo := 0) (hi := 9999) (by decide) (by decide) hT w3) (And.intro (And.intro (Nat.zero_le _) (Nat.zero_le _)) (fun zq h' hpo => ?_)))
    have fr : x_fk 32 k f g F2 G2 := x_fk_t f1 (x_fk_t (x_fk_up (Or.inr (Or.inr rfl))) (x_fk_10 (by decide) w1))
    cases e4 : y_nbr a m 0 9999 (y_nxt a m q2) with
    | inl e =>
      obtain ⟨rfl, F3, G3, rfl, p1, p2⟩ := x_PT_l e4 hpo
      refine And.intro ?_ ⟨Or.inl rfl, Nat.le_refl _, Nat.le_refl _⟩
      rw [hPo]
      refine x_PO5_L ?_ (x_fk_t fr (x_fk_10 (by decide) p1)) p2
      rw [hY, e4]
      rfl
    | inr x =>
      obtain ⟨rfl, F3, G3, rfl, p1, p2, p3⟩ := x_PT_r e4 hpo
      refine And.intro ?_ ⟨Or.inr rfl, Nat.le_refl _, Nat.le_refl _⟩
      rw [hPo]
      refine x_PO5_R (w := ((20, p, 0, x.1, (y_tk a m q2).toNatClampNeg), x.2)) ?_ (x_fk_t fr (x_fk_10 (by decide) p1)) p2 ⟨fun h => absurd (show (20 : Nat) ≤ 15 from h) (by decide), fun _ => ⟨?_, fun ho => ?_, ?_⟩, fun _ _ => p3⟩
      · rw [hY, e4]
        rfl
      · rw [p1.1 _ (by decide), w1.1 _ (by decide), x_up_k (by decide)]
        exact e2
      · rw [p1.1 _ (by decide), w1.1 _ (by decide), x_up_k (by decide)]
        exact e3.trans (hob ho)
      · rw [p1.1 _ (by decide), w1.1 _ (by decide), x_up_s]
        exact hcl
  refine x_wp_ok ok65 [158] 6 ?_
  refine And.intro (fun c => go (Or.inl c)) (fun c60 => ?_)
  have c60 : ¬ y_tk a m q2 = 60 := c60
  refine And.intro (fun c => go (Or.inr (Or.inl c))) (fun c62 => ?_)
  have c62 : ¬ y_tk a m q2 = 62 := c62
  refine And.intro (fun c => go (Or.inr (Or.inr c))) (fun c61 => ?_)
  have c61 : ¬ y_tk a m q2 = 61 := c61
  rw [if_neg (fun h => h.elim c60 (fun h => h.elim c62 c61))] at hY
  refine Exists.intro _ (And.intro (c_fail (k := 2) r1) (And.intro (And.intro (Nat.zero_le _) (Nat.zero_le _)) (fun zq h' hpo => ?_)))
  obtain ⟨rfl, F2, rfl, w1, w2⟩ := hpo
  refine And.intro ?_ ⟨Or.inl rfl, Nat.le_refl _, Nat.le_refl _⟩
  rw [hPo]
  exact x_PO5_L hY (x_fk_t f1 (x_fk_10 (by decide) w1)) w2
theorem c_readTest_22_39 (hT : y_TP a m) (hq : q ≤ m) (hk : k < 60) (hR : x_RC a m q f g) (h1 : f 22 1 = nI (v 1 0 0)) (h2 : f 22 2 = nI (v 2 0 0)) (b1 : v 1 0 0 ≤ 5) (b2 : v 2 0 0 ≤ 5) (hN : y_NR (g 24) v N) : x_Ct 65 (d + 3) [.ref 610, .int (nI k)] (f, g, x_HR 22 39, dm, n) (x_PO5 32 k a m f g (x_HR 22 39) dm n (y_tst a m N (v 2 0 0) (v 1 0 0) q)) := by
  obtain ⟨Po, hPo⟩ : ∃ Po : Option Value → xH → Prop, Po = x_PO5 32 k a m f g (x_HR 22 39) dm n (y_tst a m N (v 2 0 0) (v 1 0 0) q) := ⟨_, rfl⟩
  rw [← hPo]
  refine x_Ct_w (by decide) (Nat.le_of_ble_eq_true rfl) ok65 [8] 6 ?_
  show x_J 65 (d + 3) Po 8 [some (.ref 610), some (.int (nI k)), some (.int (f 10 7)), none] [] (f, g, x_HR 22 39, dm, n) 0 0
  rw [hR.2.2.2.2.1]
  have one : ∀ j, j < 25 → y_wm a m q = nI j → y_sa a m q = 1 := by
    intro j hj h
    have no : ∀ j, j < 25 → ¬ nI j = -1 := by decide +kernel
    exact y_wm_sa (by rw [h]; exact no j hj)
  by_cases d22 : y_wm a m q = 22
  · have hs := one 22 (by decide) d22
    have hn := y_nxt_gt (a := a) (m := m) (q := q) (by rw [hs]; decide)
    rw [d22]
    refine x_wp_ok ok65 [107] 6 ?_
    refine And.intro (fun _ => ?_) (fun c => absurd rfl c)
    refine And.intro (x_ix_nI (by omega) (by omega)) ?_
    rw [nI_clamp (by omega)]
    have r1 : x_RC a m q (x_up (x_up f 34 k 19) 10 9 (-1)) g := ⟨(x_up_k (by decide)).trans ((x_up_k (by decide)).trans hR.1), hR.2⟩
    refine Exists.intro _ (And.intro (c_adv hT r1 (by rw [hs]; decide) (by rw [hs]; decide)) (And.intro (And.intro (Nat.zero_le _) (Nat.zero_le _)) (fun zq h' hpo => ?_)))
    obtain ⟨rfl, F1, G1, rfl, w1, w2, w3⟩ := hpo
    refine And.intro (fun _ => ?_) (fun c => absurd c (by decide))
    refine And.intro (fun _ => ?_) (fun c => absurd c (by decide))
    refine c_testRest18_22_39 (p := 0) hT hk hPo w3 (x_fk_t (x_fk_up (Or.inl rfl)) (x_fk_t (x_fk_9 (by decide)) (x_fk_10 (by decide) w1))) ?_ rfl (fun h => absurd rfl h) ?_
    · rw [w1.1 _ (by decide), x_up_k (by decide), x_up_s]
      rfl
    · rw [y_tst_w d22 (Or.inl rfl) (o := 18) (by decide) (hi := 999) (by decide), y_obj_22]
      rfl
  by_cases d23 : y_wm a m q = 23
  · have hs := one 23 (by decide) d23
    have hn := y_nxt_gt (a := a) (m := m) (q := q) (by rw [hs]; decide)
    rw [d23]
    refine x_wp_ok ok65 [107] 6 ?_
    refine And.intro (fun c => absurd c (by decide)) (fun _ => ?_)
    refine And.intro (fun _ => ?_) (fun c => absurd rfl c)
    refine And.intro (x_ix_nI (by omega) (by omega)) ?_
    rw [nI_clamp (by omega)]
    have r1 : x_RC a m q (x_up (x_up f 34 k 20) 10 9 (-1)) g := ⟨(x_up_k (by decide)).trans ((x_up_k (by decide)).trans hR.1), hR.2⟩
    refine Exists.intro _ (And.intro (c_adv hT r1 (by rw [hs]; decide) (by rw [hs]; decide)) (And.intro (And.intro (Nat.zero_le _) (Nat.zero_le _)) (fun zq h' hpo => ?_)))
    obtain ⟨rfl, F1, G1, rfl, w1, w2, w3⟩ := hpo
    have f1 : x_fk 32 k f g F1 G1 := x_fk_t (x_fk_up (Or.inl rfl)) (x_fk_t (x_fk_9 (by decide)) (x_fk_10 (by decide) w1))
    have e2 : F1 34 k = 20 := by
      rw [w1.1 _ (by decide), x_up_k (by decide), x_up_s]
      rfl
    refine And.intro (fun c => absurd rfl c) (fun _ => ?_)
    refine Exists.intro _ (And.intro (c_takeOldName_22_9 (N := N) (M := v 2 0 0) hT hn.2 w3 (by rw [w1.1 22 (by decide), x_up_k (by decide), x_up_k (by decide)]; exact h2) b2 (by rw [w1.2 24 (by decide)]; exact y_NR_9 hN _)) (And.intro (And.intro (Nat.zero_le _) (Nat.zero_le _)) (fun zq h' hpo => ?_)))
    cases e1 : y_old a m N 9 (v 2 0 0) (y_nxt a m q) with
    | inl e =>
      obtain ⟨rfl, F2, G2, rfl, p1, p2⟩ := x_PT_l e1 hpo
      refine And.intro (fun c => absurd rfl c) (fun _ => ?_)
      refine And.intro ?_ ⟨Or.inl rfl, Nat.le_refl _, Nat.le_refl _⟩
      rw [hPo]
      refine x_PO5_L ?_ (x_fk_t f1 (x_fk_10 (by decide) p1)) p2
      rw [y_tst_w d23 (Or.inr (Or.inl rfl)) (o := 19) (by decide) (hi := 9999) (by decide), y_obj_23, e1]
      rfl
    | inr p =>
      obtain ⟨rfl, F2, G2, rfl, p1, p2, p3⟩ := x_PT_r e1 hpo
      refine And.intro (fun _ => ?_) (fun c => absurd (show (1 : Int32) = 0 from c) (by decide))
      refine And.intro (fun _ => ?_) (fun c => absurd c (by decide))
      refine c_testRest19_22_39 (p := p.1) hT hk hPo p2 (x_fk_t f1 (x_fk_10 (by decide) p1)) (by rw [p1.1 _ (by decide)]; exact e2) p3 (fun _ => rfl) ?_
      rw [y_tst_w d23 (Or.inr (Or.inl rfl)) (o := 19) (by decide) (hi := 9999) (by decide), y_obj_23, e1]
      rfl
  by_cases d24 : y_wm a m q = 24
  · have hs := one 24 (by decide) d24
    have hn := y_nxt_gt (a := a) (m := m) (q := q) (by rw [hs]; decide)
    rw [d24]
    refine x_wp_ok ok65 [107] 6 ?_
    refine And.intro (fun c => absurd c (by decide)) (fun _ => ?_)
    refine And.intro (fun c => absurd c (by decide)) (fun _ => ?_)
    refine And.intro (fun _ => ?_) (fun c => absurd rfl c)
    refine And.intro (x_ix_nI (by omega) (by omega)) ?_
    rw [nI_clamp (by omega)]
    have r1 : x_RC a m q (x_up (x_up f 34 k 21) 10 9 (-1)) g := ⟨(x_up_k (by decide)).trans ((x_up_k (by decide)).trans hR.1), hR.2⟩
    refine Exists.intro _ (And.intro (c_adv hT r1 (by rw [hs]; decide) (by rw [hs]; decide)) (And.intro (And.intro (Nat.zero_le _) (Nat.zero_le _)) (fun zq h' hpo => ?_)))
    obtain ⟨rfl, F1, G1, rfl, w1, w2, w3⟩ := hpo
    have f1 : x_fk 32 k f g F1 G1 := x_fk_t (x_fk_up (Or.inl rfl)) (x_fk_t (x_fk_9 (by decide)) (x_fk_10 (by decide) w1))
    have e2 : F1 34 k = 21 := by
      rw [w1.1 _ (by decide), x_up_k (by decide), x_up_s]
      rfl
    refine And.intro (fun _ => ?_) (fun c => absurd c (by decide))
    refine And.intro (fun c => absurd rfl c) (fun _ => ?_)
    refine Exists.intro _ (And.intro (c_takeOldName_22_4 (N := N) (M := v 1 0 0) hT hn.2 w3 (by rw [w1.1 22 (by decide), x_up_k (by decide), x_up_k (by decide)]; exact h1) b1 (by rw [w1.2 24 (by decide)]; exact y_NR_4 hN _)) (And.intro (And.intro (Nat.zero_le _) (Nat.zero_le _)) (fun zq h' hpo => ?_)))
    cases e1 : y_old a m N 4 (v 1 0 0) (y_nxt a m q) with
    | inl e =>
      obtain ⟨rfl, F2, G2, rfl, p1, p2⟩ := x_PT_l e1 hpo
      refine And.intro (fun c => absurd rfl c) (fun _ => ?_)
      refine And.intro ?_ ⟨Or.inl rfl, Nat.le_refl _, Nat.le_refl _⟩
      rw [hPo]
      refine x_PO5_L ?_ (x_fk_t f1 (x_fk_10 (by decide) p1)) p2
      rw [y_tst_w d24 (Or.inr (Or.inr rfl)) (o := 20) (by decide) (hi := 9999) (by decide), y_obj_24, e1]
      rfl
    | inr p =>
      obtain ⟨rfl, F2, G2, rfl, p1, p2, p3⟩ := x_PT_r e1 hpo
      refine And.intro (fun _ => ?_) (fun c => absurd (show (1 : Int32) = 0 from c) (by decide))
      refine c_testRest20_22_39 (p := p.1) hT hk hPo p2 (x_fk_t f1 (x_fk_10 (by decide) p1)) (by rw [p1.1 _ (by decide)]; exact e2) p3 (fun _ => rfl) ?_
      rw [y_tst_w d24 (Or.inr (Or.inr rfl)) (o := 20) (by decide) (hi := 9999) (by decide), y_obj_24, e1]
      rfl
  have hY : y_tst a m N (v 2 0 0) (v 1 0 0) q = .inl (y_fl a m q 2) := by
    unfold y_tst
    rw [if_neg (fun h => h.elim d22 (fun h => h.elim d23 d24))]
  refine x_wp_ok ok65 [] 6 ?_
  refine And.intro (fun c => absurd ((y_tr_eq a m q (w := 22) (by decide)).mp c) d22) (fun _ => ?_)
  refine And.intro (fun c => absurd ((y_tr_eq a m q (w := 23) (by decide)).mp c) d23) (fun _ => ?_)
  refine And.intro (fun c => absurd ((y_tr_eq a m q (w := 24) (by decide)).mp c) d24) (fun _ => ?_)
  refine Exists.intro _ (And.intro (c_fail (k := 2) hR) (And.intro (And.intro (Nat.zero_le _) (Nat.zero_le _)) (fun zq h' hpo => ?_)))
  obtain ⟨rfl, F1, rfl, u1, u2⟩ := hpo
  refine And.intro ?_ ⟨Or.inl rfl, Nat.le_refl _, Nat.le_refl _⟩
  rw [hPo]
  exact x_PO5_L hY (x_fk_10 (by decide) u1) u2
end C96
