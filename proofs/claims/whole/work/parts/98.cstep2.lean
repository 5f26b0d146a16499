/-! a step: the class reads it -/
def x_W4 (T : Nat) (S : xTr) (f : Nat → Nat → Int32) (g : Nat → Nat → Int64) (dp' : Nat) (op' : Nat → Nat) (cw : Int32) (n1 n2 : Nat) (F : Nat → Nat → Int32) (G : Nat → Nat → Int64) : Prop := x_fR T f g F G ∧ F T 1 = nI n1 ∧ F T 2 = nI n2 ∧ F 610 4 = nI dp' ∧ (∀ i, i < dp' → F 611 i = nI (op' i)) ∧ (∀ c, T + 1 ≤ c → c ≤ T + 6 → ∀ k, k ≠ S.2.1 → F c k = f c k) ∧ F (T + 1) S.2.1 = cw
section C98
variable {f : Nat → Nat → Int32} {g : Nat → Nat → Int64} {r t T k : Nat} {dm : List Nat} {n d L : Nat} {v : xV} {a : Nat → Int32} {m q : Nat} {N : Nat → Int64} {S : xTr} {ρ : Nat → Nat → Option Nat} {X : xF (xN5 × Nat)} {Y : xF (xTr × Nat)} {e : Nat × Nat} {F : Nat → Nat → Int32} {G : Nat → Nat → Int64} {P K G' w : Nat}
theorem x_W4_k {dp' n1 n2 : Nat} {op' : Nat → Nat} {cw : Int32} {F5 : Nat → Nat → Int32} {G5 : Nat → Nat → Int64} (hT : T = 32 ∨ T = 39) (h : x_W4 T S f g dp' op' cw n1 n2 F G) (hk : x_fk T S.2.1 F G F5 G5) : x_W4 T S f g dp' op' cw n1 n2 F5 G5 := by
  obtain ⟨h1, h2, h3, h4, h5, h6, h7⟩ := h
  refine ⟨x_fR_t h1 (x_fR_k hk), ?_, ?_, ?_, fun i hi => ?_, fun c c1 c2 k hk' => ?_, ?_⟩
  · rw [hk.1 T (by omega) (by omega) (by omega) (by omega)]; exact h2
  · rw [hk.1 T (by omega) (by omega) (by omega) (by omega)]; exact h3
  · rw [hk.1 610 (by omega) (by omega) (by omega) (by omega)]; exact h4
  · rw [hk.1 611 (by omega) (by omega) (by omega) (by omega)]; exact h5 i hi
  · by_cases e : T + 2 ≤ c ∧ c ≤ T + 5
    · rw [hk.2.1 c e k hk']; exact h6 c c1 c2 k hk'
    · rw [hk.1 c (by omega) (by omega) (by omega) (by omega)]; exact h6 c c1 c2 k hk'
  · rw [hk.1 (T + 1) (by omega) (by omega) (by omega) (by omega)]; exact h7
theorem y_ordr_K (h : w = 11 ∨ w = 14 ∨ w = 15) : y_ordr a m N P K G' w q = y_deed a m N P K 0 w q := if_pos h
theorem y_ordr_G (h : w = 12 ∨ w = 13) : y_ordr a m N P K G' w q = y_deed a m N P G' 4 w q := (if_neg (by omega)).trans (if_pos h)
theorem y_ordr_16 : y_ordr a m N P K G' 16 q = y_numb a m 16 20 q := (if_neg (by omega)).trans ((if_neg (by omega)).trans (if_pos rfl))
theorem y_ordr_19 : y_ordr a m N P K G' 19 q = y_numb a m 22 99 q := (if_neg (by omega)).trans ((if_neg (by omega)).trans ((if_neg (by omega)).trans (if_pos rfl)))
theorem y_ordr_18 : y_ordr a m N P K G' 18 q = y_tst a m N P G' q := (if_neg (by omega)).trans ((if_neg (by omega)).trans ((if_neg (by omega)).trans ((if_neg (by omega)).trans (if_pos rfl))))
theorem y_ordr_17 : y_ordr a m N P K G' 17 q = .inr ((17, 0, 0, 0, 0), q) := (if_neg (by omega)).trans ((if_neg (by omega)).trans ((if_neg (by omega)).trans ((if_neg (by omega)).trans ((if_neg (by omega)).trans (by rw [if_pos rfl])))))
theorem y_ordr_21 : y_ordr a m N P K G' 21 q = .inr ((24, 0, 0, 0, 0), q) := (if_neg (by omega)).trans ((if_neg (by omega)).trans ((if_neg (by omega)).trans ((if_neg (by omega)).trans ((if_neg (by omega)).trans (by rw [if_neg (by decide)])))))
theorem y_tst_o {z : xN5 × Nat} (h : y_tst a m N P G' q = .inr z) : 18 ≤ z.1.1 ∧ z.1.1 ≤ 20 := by
  unfold y_tst at h
  by_cases d : y_wm a m q = 22 ∨ y_wm a m q = 23 ∨ y_wm a m q = 24
  · rw [if_pos d] at h
    obtain ⟨u, hu, h⟩ := y_bd_inr h
    by_cases e : y_tk a m u.2 = 60 ∨ y_tk a m u.2 = 62 ∨ y_tk a m u.2 = 61
    · rw [if_pos e] at h
      obtain ⟨x, hx, h⟩ := y_bd_inr h
      cases h
      show 18 ≤ (y_wm a m q).toNatClampNeg - 4 ∧ (y_wm a m q).toNatClampNeg - 4 ≤ 20
      rcases d with d | d | d <;> rw [d] <;> decide
    · rw [if_neg e] at h
      cases h
  · rw [if_neg d] at h
    cases h
theorem y_wd_18 {o : Nat} (h : 18 ≤ o ∧ o ≤ 20) : y_wd o = 18 := if_pos h
theorem y_tr_18 {w : Nat} (hw : w < 25) : (y_tr (nI w) = 18 ↔ w = 18) ∧ (y_tr (nI w) = 22 ↔ w = 19) := by
  have e : ∀ w, w < 25 → (y_tr (nI w) = 18 ↔ w = 18) ∧ (y_tr (nI w) = 22 ↔ w = 19) := by decide +kernel
  exact e w hw
theorem c_stepOrd_12_32 {dp' : Nat} {op' : Nat → Nat} {x2 : Int32} {Po : Option Value → xH → Prop} (hw1 : 11 ≤ w) (hw2 : w ≤ 21) (hw3 : w ≠ 20) (hT : y_TP a m) (hq : q ≤ m) (hNL : S.2.1 < 60) (hPo : Po = x_PR 39 a m f g (x_HR 12 32) dm n Y) (hS : x_RS 39 a m S r f g) (hW : x_W4 39 S f g dp' op' (y_tr (nI w)) (S.2.2.1 + 1) (S.2.1 + 1) F G) (hR : x_RC a m q F G) (h0 : f 12 0 = nI (v 0 0 0)) (h1 : f 12 1 = nI (v 1 0 0)) (h2 : f 12 2 = nI (v 2 0 0)) (b0 : v 0 0 0 ≤ 4) (b1 : v 1 0 0 ≤ 5) (b2 : v 2 0 0 ≤ 5) (hN : y_NR (g 14) v N) (hcl : ∀ k, k < S.2.1 → (∀ i, i < dp' → op' i ≠ k) → y_cl S k) (hcn : (w = 18 ∨ w = 19) → ∃ i, i < dp' ∧ op' i = S.2.1) (hY : Y = y_bd (y_ordr a m N (v 2 0 0) (v 0 0 0) (v 1 0 0) w q) (fun z => y_bd (y_sgn a m 59 z.2) (fun q2 => .inr ((y_lne S.1 S.2.1 z.1, S.2.1 + 1, S.2.2.1 + 1, dp', op'), q2)))) : x_J 62 (d + 4) Po 173 [some (.ref 610), some (.int (y_tr (nI w))), some (.int x2), some (.int (nI S.2.1)), none] [] (F, G, x_HR 12 32, dm, n) 0 0 := by
  have hTT : (39 : Nat) = 32 ∨ (39 : Nat) = 39 := by decide
  have g0 : F 12 0 = nI (v 0 0 0) := by rw [hW.1.1 12 (by decide) (by decide) (by decide) (by decide)]; exact h0
  have g1 : F 12 1 = nI (v 1 0 0) := by rw [hW.1.1 12 (by decide) (by decide) (by decide) (by decide)]; exact h1
  have g2 : F 12 2 = nI (v 2 0 0) := by rw [hW.1.1 12 (by decide) (by decide) (by decide) (by decide)]; exact h2
  have gN : y_NR (G 14) v N := by rw [hW.1.2 14 (by decide)]; exact hN
  have fin : ∀ (z : xN5 × Nat) F5 G5 cw, y_ordr a m N (v 2 0 0) (v 0 0 0) (v 1 0 0) w q = .inr z → x_fk 39 S.2.1 F G F5 G5 → x_RC a m z.2 F5 G5 → x_od 39 S.2.1 z.1 F5 → y_tr (nI w) = nI (y_wd z.1.1) → (17 < z.1.1 → z.1.1 ≠ 24 → w = 18 ∨ w = 19) → z.1.1 ≠ 23 → x_J 62 (d + 4) Po 254 [some (.ref 610), some (.int cw), some (.int x2), some (.int (nI S.2.1)), some (.int 1)] [] (F5, G5, x_HR 12 32, dm, n) 0 0 := by
    intro z F5 G5 cw hX hk hR5 hod hD hop hn
    obtain ⟨w1, w2, w3, w4, w5, w6, w7⟩ := x_W4_k hTT hW hk
    exact c_stepFin_12_32 hT hNL hPo hS w1 w2 w3 w4 w5 w6 (w7.trans hD) hR5 hod hn hcl (fun h17 h24 => hcn (hop h17 h24)) (by rw [hY, hX]; rfl)
  have bad : ∀ (e : Nat × Nat) F5 G5 cw, y_ordr a m N (v 2 0 0) (v 0 0 0) (v 1 0 0) w q = .inl e → x_fk 39 S.2.1 F G F5 G5 → x_FL F5 e → x_J 62 (d + 4) Po 254 [some (.ref 610), some (.int cw), some (.int x2), some (.int (nI S.2.1)), some (.int 0)] [] (F5, G5, x_HR 12 32, dm, n) 0 0 := by
    intro e F5 G5 cw hX hk he
    exact c_stepNo_12_32 hNL hPo (x_fR_t hW.1 (x_fR_k hk)) he (by rw [hY, hX]; rfl)
  have hww : w = 11 ∨ w = 12 ∨ w = 13 ∨ w = 14 ∨ w = 15 ∨ w = 16 ∨ w = 17 ∨ w = 18 ∨ w = 19 ∨ w = 21 := by omega
  rcases hww with rfl | rfl | rfl | rfl | rfl | rfl | rfl | rfl | rfl | rfl
  · refine x_wp_ok ok62 [254] 6 ?_
    refine And.intro (fun _ => ?_) (fun c => absurd c (by decide))
    refine And.intro (fun _ => ?_) (fun c => absurd c (by decide))
    refine And.intro (fun _ => ?_) (fun c => absurd c (by decide))
    refine And.intro (fun c => absurd c (by decide)) (fun _ => ?_)
    refine And.intro (fun c => absurd c (by decide)) (fun _ => ?_)
    refine Exists.intro _ (And.intro (c_readDeedK_12_32 (w := 11) (N := N) (v := v) (Or.inl rfl) hT hq hNL hR g0 g2 b0 b2 gN) (And.intro (And.intro (Nat.zero_le _) (Nat.zero_le _)) (fun zq h' hpo => ?_)))
    cases e1 : y_deed a m N (v 2 0 0) (v 0 0 0) 0 11 q with
    | inl e =>
      rw [e1] at hpo
      obtain ⟨rfl, F5, G5, rfl, u1, u2⟩ := hpo
      exact bad e F5 G5 _ ((y_ordr_K (Or.inl rfl)).trans e1) u1 u2
    | inr z =>
      rw [e1] at hpo
      obtain ⟨rfl, F5, G5, rfl, u1, u2, u3⟩ := hpo
      have ez : z.1.1 = 11 := by
        unfold y_deed at e1
        obtain ⟨p1, -, e1⟩ := y_bd_inr e1
        obtain ⟨p2, -, e1⟩ := y_bd_inr e1
        obtain ⟨p3, -, e1⟩ := y_bd_inr e1
        cases e1
        rfl
      exact fin z F5 G5 _ ((y_ordr_K (Or.inl rfl)).trans e1) u1 u2 u3 (by rw [ez]; decide) (fun h => by rw [ez] at h; exact absurd h (by decide)) (by rw [ez]; decide)
  · refine x_wp_ok ok62 [254] 6 ?_
    refine And.intro (fun _ => ?_) (fun c => absurd c (by decide))
    refine And.intro (fun _ => ?_) (fun c => absurd c (by decide))
    refine And.intro (fun _ => ?_) (fun c => absurd c (by decide))
    refine And.intro (fun c => absurd c (by decide)) (fun _ => ?_)
    refine And.intro (fun c => absurd c (by decide)) (fun _ => ?_)
    refine Exists.intro _ (And.intro (c_readDeedG_12_32 (w := 12) (N := N) (v := v) (Or.inl rfl) hT hq hNL hR g1 g2 b1 b2 gN) (And.intro (And.intro (Nat.zero_le _) (Nat.zero_le _)) (fun zq h' hpo => ?_)))
    cases e1 : y_deed a m N (v 2 0 0) (v 1 0 0) 4 12 q with
    | inl e =>
      rw [e1] at hpo
      obtain ⟨rfl, F5, G5, rfl, u1, u2⟩ := hpo
      exact bad e F5 G5 _ ((y_ordr_G (Or.inl rfl)).trans e1) u1 u2
    | inr z =>
      rw [e1] at hpo
      obtain ⟨rfl, F5, G5, rfl, u1, u2, u3⟩ := hpo
      have ez : z.1.1 = 12 := by
        unfold y_deed at e1
        obtain ⟨p1, -, e1⟩ := y_bd_inr e1
        obtain ⟨p2, -, e1⟩ := y_bd_inr e1
        obtain ⟨p3, -, e1⟩ := y_bd_inr e1
        cases e1
        rfl
      exact fin z F5 G5 _ ((y_ordr_G (Or.inl rfl)).trans e1) u1 u2 u3 (by rw [ez]; decide) (fun h => by rw [ez] at h; exact absurd h (by decide)) (by rw [ez]; decide)
  · refine x_wp_ok ok62 [254] 6 ?_
    refine And.intro (fun _ => ?_) (fun c => absurd c (by decide))
    refine And.intro (fun _ => ?_) (fun c => absurd c (by decide))
    refine And.intro (fun _ => ?_) (fun c => absurd c (by decide))
    refine And.intro (fun c => absurd c (by decide)) (fun _ => ?_)
    refine And.intro (fun c => absurd c (by decide)) (fun _ => ?_)
    refine Exists.intro _ (And.intro (c_readDeedG_12_32 (w := 13) (N := N) (v := v) (Or.inr rfl) hT hq hNL hR g1 g2 b1 b2 gN) (And.intro (And.intro (Nat.zero_le _) (Nat.zero_le _)) (fun zq h' hpo => ?_)))
    cases e1 : y_deed a m N (v 2 0 0) (v 1 0 0) 4 13 q with
    | inl e =>
      rw [e1] at hpo
      obtain ⟨rfl, F5, G5, rfl, u1, u2⟩ := hpo
      exact bad e F5 G5 _ ((y_ordr_G (Or.inr rfl)).trans e1) u1 u2
    | inr z =>
      rw [e1] at hpo
      obtain ⟨rfl, F5, G5, rfl, u1, u2, u3⟩ := hpo
      have ez : z.1.1 = 13 := by
        unfold y_deed at e1
        obtain ⟨p1, -, e1⟩ := y_bd_inr e1
        obtain ⟨p2, -, e1⟩ := y_bd_inr e1
        obtain ⟨p3, -, e1⟩ := y_bd_inr e1
        cases e1
        rfl
      exact fin z F5 G5 _ ((y_ordr_G (Or.inr rfl)).trans e1) u1 u2 u3 (by rw [ez]; decide) (fun h => by rw [ez] at h; exact absurd h (by decide)) (by rw [ez]; decide)
  · refine x_wp_ok ok62 [254] 6 ?_
    refine And.intro (fun _ => ?_) (fun c => absurd c (by decide))
    refine And.intro (fun _ => ?_) (fun c => absurd c (by decide))
    refine And.intro (fun _ => ?_) (fun c => absurd c (by decide))
    refine And.intro (fun c => absurd c (by decide)) (fun _ => ?_)
    refine And.intro (fun c => absurd c (by decide)) (fun _ => ?_)
    refine Exists.intro _ (And.intro (c_readDeedK_12_32 (w := 14) (N := N) (v := v) (Or.inr (Or.inl rfl)) hT hq hNL hR g0 g2 b0 b2 gN) (And.intro (And.intro (Nat.zero_le _) (Nat.zero_le _)) (fun zq h' hpo => ?_)))
    cases e1 : y_deed a m N (v 2 0 0) (v 0 0 0) 0 14 q with
    | inl e =>
      rw [e1] at hpo
      obtain ⟨rfl, F5, G5, rfl, u1, u2⟩ := hpo
      exact bad e F5 G5 _ ((y_ordr_K (Or.inr (Or.inl rfl))).trans e1) u1 u2
    | inr z =>
      rw [e1] at hpo
      obtain ⟨rfl, F5, G5, rfl, u1, u2, u3⟩ := hpo
      have ez : z.1.1 = 14 := by
        unfold y_deed at e1
        obtain ⟨p1, -, e1⟩ := y_bd_inr e1
        obtain ⟨p2, -, e1⟩ := y_bd_inr e1
        obtain ⟨p3, -, e1⟩ := y_bd_inr e1
        cases e1
        rfl
      exact fin z F5 G5 _ ((y_ordr_K (Or.inr (Or.inl rfl))).trans e1) u1 u2 u3 (by rw [ez]; decide) (fun h => by rw [ez] at h; exact absurd h (by decide)) (by rw [ez]; decide)
  · refine x_wp_ok ok62 [254] 6 ?_
    refine And.intro (fun _ => ?_) (fun c => absurd c (by decide))
    refine And.intro (fun _ => ?_) (fun c => absurd c (by decide))
    refine And.intro (fun _ => ?_) (fun c => absurd c (by decide))
    refine And.intro (fun c => absurd c (by decide)) (fun _ => ?_)
    refine And.intro (fun c => absurd c (by decide)) (fun _ => ?_)
    refine Exists.intro _ (And.intro (c_readDeedK_12_32 (w := 15) (N := N) (v := v) (Or.inr (Or.inr rfl)) hT hq hNL hR g0 g2 b0 b2 gN) (And.intro (And.intro (Nat.zero_le _) (Nat.zero_le _)) (fun zq h' hpo => ?_)))
    cases e1 : y_deed a m N (v 2 0 0) (v 0 0 0) 0 15 q with
    | inl e =>
      rw [e1] at hpo
      obtain ⟨rfl, F5, G5, rfl, u1, u2⟩ := hpo
      exact bad e F5 G5 _ ((y_ordr_K (Or.inr (Or.inr rfl))).trans e1) u1 u2
    | inr z =>
      rw [e1] at hpo
      obtain ⟨rfl, F5, G5, rfl, u1, u2, u3⟩ := hpo
      have ez : z.1.1 = 15 := by
        unfold y_deed at e1
        obtain ⟨p1, -, e1⟩ := y_bd_inr e1
        obtain ⟨p2, -, e1⟩ := y_bd_inr e1
        obtain ⟨p3, -, e1⟩ := y_bd_inr e1
        cases e1
        rfl
      exact fin z F5 G5 _ ((y_ordr_K (Or.inr (Or.inr rfl))).trans e1) u1 u2 u3 (by rw [ez]; decide) (fun h => by rw [ez] at h; exact absurd h (by decide)) (by rw [ez]; decide)
  · refine x_wp_ok ok62 [254] 6 ?_
    refine And.intro (fun c => absurd rfl c) (fun _ => ?_)
    refine Exists.intro _ (And.intro (c_takeNumber (lo := 1) (hi := 20) (by decide) (by decide) hT hR) (And.intro (And.intro (Nat.zero_le _) (Nat.zero_le _)) (fun zq h' hpo => ?_)))
    cases e1 : y_nbr a m 1 20 q with
    | inl e =>
      obtain ⟨rfl, F5, G5, rfl, u1, u2⟩ := x_PT_l e1 hpo
      refine bad e F5 G5 _ (y_ordr_16.trans ?_) (x_fk_10 (by decide) u1) u2
      unfold y_numb
      rw [e1]
      rfl
    | inr x =>
      obtain ⟨rfl, F5, G5, rfl, u1, u2, u3⟩ := x_PT_r e1 hpo
      refine fin ((16, 0, 0, x.1, 0), x.2) F5 G5 _ (y_ordr_16.trans ?_) (x_fk_10 (by decide) u1) u2 ⟨fun h => absurd (show (16 : Nat) ≤ 15 from h) (by decide), fun h => absurd (show 18 ≤ (16 : Nat) ∧ (16 : Nat) ≤ 20 from h) (by decide), fun _ _ => u3⟩ (show y_tr (nI 16) = nI (y_wd 16) by decide) (fun h _ => absurd (show 17 < (16 : Nat) from h) (by decide)) (show (16 : Nat) ≠ 23 by decide)
      unfold y_numb
      rw [e1]
      rfl
  · refine x_wp_ok ok62 [254] 6 ?_
    refine And.intro (fun _ => ?_) (fun c => absurd c (by decide))
    refine And.intro (fun _ => ?_) (fun c => absurd c (by decide))
    refine And.intro (fun _ => ?_) (fun c => absurd c (by decide))
    refine And.intro (fun _ => ?_) (fun c => absurd rfl c)
    exact fin ((17, 0, 0, 0, 0), q) F G _ y_ordr_17 x_fk_r hR ⟨fun h => absurd (show (17 : Nat) ≤ 15 from h) (by decide), fun h => absurd (show 18 ≤ (17 : Nat) ∧ (17 : Nat) ≤ 20 from h) (by decide), fun h => absurd rfl h⟩ (show y_tr (nI 17) = nI (y_wd 17) by decide) (fun h => absurd (show 17 < (17 : Nat) from h) (by decide)) (show (17 : Nat) ≠ 23 by decide)
  · refine x_wp_ok ok62 [254] 6 ?_
    refine And.intro (fun _ => ?_) (fun c => absurd c (by decide))
    refine And.intro (fun _ => ?_) (fun c => absurd c (by decide))
    refine And.intro (fun c => absurd rfl c) (fun _ => ?_)
    refine Exists.intro _ (And.intro (c_readTest_12_32 (N := N) (v := v) hT hq hNL hR g1 g2 b1 b2 gN) (And.intro (And.intro (Nat.zero_le _) (Nat.zero_le _)) (fun zq h' hpo => ?_)))
    cases e1 : y_tst a m N (v 2 0 0) (v 1 0 0) q with
    | inl e =>
      rw [e1] at hpo
      obtain ⟨rfl, F5, G5, rfl, u1, u2⟩ := hpo
      exact bad e F5 G5 _ (y_ordr_18.trans e1) u1 u2
    | inr z =>
      rw [e1] at hpo
      obtain ⟨rfl, F5, G5, rfl, u1, u2, u3⟩ := hpo
      have ez := y_tst_o e1
      exact fin z F5 G5 _ (y_ordr_18.trans e1) u1 u2 u3 (by rw [y_wd_18 ez]; decide) (fun _ _ => Or.inl rfl) (by omega)
  · refine x_wp_ok ok62 [254] 6 ?_
    refine And.intro (fun _ => ?_) (fun c => absurd c (by decide))
    refine And.intro (fun c => absurd rfl c) (fun _ => ?_)
    refine Exists.intro _ (And.intro (c_takeNumber (lo := 1) (hi := 99) (by decide) (by decide) hT hR) (And.intro (And.intro (Nat.zero_le _) (Nat.zero_le _)) (fun zq h' hpo => ?_)))
    cases e1 : y_nbr a m 1 99 q with
    | inl e =>
      obtain ⟨rfl, F5, G5, rfl, u1, u2⟩ := x_PT_l e1 hpo
      refine bad e F5 G5 _ (y_ordr_19.trans ?_) (x_fk_10 (by decide) u1) u2
      unfold y_numb
      rw [e1]
      rfl
    | inr x =>
      obtain ⟨rfl, F5, G5, rfl, u1, u2, u3⟩ := x_PT_r e1 hpo
      refine fin ((22, 0, 0, x.1, 0), x.2) F5 G5 _ (y_ordr_19.trans ?_) (x_fk_10 (by decide) u1) u2 ⟨fun h => absurd (show (22 : Nat) ≤ 15 from h) (by decide), fun h => absurd (show 18 ≤ (22 : Nat) ∧ (22 : Nat) ≤ 20 from h) (by decide), fun _ _ => u3⟩ (show y_tr (nI 19) = nI (y_wd 22) by decide) (fun h _ => Or.inr rfl) (show (22 : Nat) ≠ 23 by decide)
      unfold y_numb
      rw [e1]
      rfl
  · refine x_wp_ok ok62 [254] 6 ?_
    refine And.intro (fun _ => ?_) (fun c => absurd c (by decide))
    refine And.intro (fun _ => ?_) (fun c => absurd c (by decide))
    refine And.intro (fun _ => ?_) (fun c => absurd c (by decide))
    refine And.intro (fun c => absurd c (by decide)) (fun _ => ?_)
    refine And.intro (fun _ => ?_) (fun c => absurd rfl c)
    exact fin ((24, 0, 0, 0, 0), q) F G _ y_ordr_21 x_fk_r hR ⟨fun h => absurd (show (24 : Nat) ≤ 15 from h) (by decide), fun h => absurd (show 18 ≤ (24 : Nat) ∧ (24 : Nat) ≤ 20 from h) (by decide), fun _ h => absurd rfl h⟩ (show y_tr (nI 21) = nI (y_wd 24) by decide) (fun _ h => absurd rfl h) (show (24 : Nat) ≠ 23 by decide)
theorem c_readStep_12_32 (hT : y_TP a m) (hI : y_RI (v 2 0 0) (v 0 0 0) (v 1 0 0) S) (hS : x_RS 39 a m S q f g) (h0 : f 12 0 = nI (v 0 0 0)) (h1 : f 12 1 = nI (v 1 0 0)) (h2 : f 12 2 = nI (v 2 0 0)) (b0 : v 0 0 0 ≤ 4) (b1 : v 1 0 0 ≤ 5) (b2 : v 2 0 0 ≤ 5) (hN : y_NR (g 14) v N) (hw20 : y_wm a m q ≠ 20) : x_Ct 62 (d + 4) [.ref 610] (f, g, x_HR 12 32, dm, n) (x_PR 39 a m f g (x_HR 12 32) dm n (y_rst a m N (v 2 0 0) (v 0 0 0) (v 1 0 0) S q)) := by
  obtain ⟨Y, hYd⟩ : ∃ Y, Y = y_rst a m N (v 2 0 0) (v 0 0 0) (v 1 0 0) S q := ⟨_, rfl⟩
  rw [← hYd]
  obtain ⟨Po, hPo⟩ : ∃ Po : Option Value → xH → Prop, Po = x_PR 39 a m f g (x_HR 12 32) dm n Y := ⟨_, rfl⟩
  rw [← hPo]
  have hst := hI.2.1
  have hdp := hI.2.2.1
  have hnl := hI.1
  have e1 : f 39 1 = nI S.2.2.1 := hS.2.1
  have e2 : f 39 2 = nI S.2.1 := hS.2.2.1
  have e4 : f 610 4 = nI S.2.2.2.1 := hS.2.2.2.1
  have fl : ∀ k, Y = .inl (y_fl a m q k) → ∀ F, x_f10 f g F g → x_FL F (y_fl a m q k) → Po (some (.int 0)) (F, g, x_HR 12 32, dm, n) := by
    intro k hY F u1 u2
    rw [hPo, hY]
    exact ⟨rfl, F, g, rfl, x_fR_10 u1, u2⟩
  refine x_Ct_w (by decide) (Nat.le_of_ble_eq_true rfl) ok62 [8] 6 ?_
  show x_J 62 (d + 4) Po 8 [some (.ref 610), some (.int (f 10 7)), none, none, none] [] (f, g, x_HR 12 32, dm, n) 0 0
  rw [hS.1.2.2.2.2.1]
  rcases y_wm_rg a m q with hw | ⟨w, hw25, hw⟩
  · have hY : Y = .inl (y_fl a m q 2) := by
      rw [hYd]
      unfold y_rst
      rw [if_neg hw20, if_pos (Or.inl (by rw [hw]; decide))]
    rw [hw]
    refine x_wp_ok ok62 [24] 6 ?_
    refine Exists.intro _ (And.intro c_isStepWord_no (And.intro (And.intro (Nat.zero_le _) (Nat.zero_le _)) (fun q h' hpo => ?_)))
    obtain ⟨rfl, rfl⟩ := hpo
    refine And.intro (fun c => absurd rfl c) (fun _ => ?_)
    refine Exists.intro _ (And.intro (c_fail (k := 2) hS.1) (And.intro (And.intro (Nat.zero_le _) (Nat.zero_le _)) (fun zq h' hpo => ?_)))
    obtain ⟨rfl, F1, rfl, u1, u2⟩ := hpo
    refine And.intro ?_ ⟨Or.inl rfl, Nat.le_refl _, Nat.le_refl _⟩
    exact fl 2 hY F1 u1 u2
  · have l1 : y_wm a m q < 11 ↔ w < 11 := by rw [hw]; exact nI_ltI (b := 11) (by omega) (by decide)
    have l2 : 21 < y_wm a m q ↔ 21 < w := by rw [hw]; exact nI_ltI (a := 21) (by decide) (by omega)
    have n20 : w ≠ 20 := fun e => hw20 (by rw [hw, e]; rfl)
    have e18 : (y_wm a m q = 18 ∨ y_wm a m q = 19) ↔ (w = 18 ∨ w = 19) := by
      rw [hw, show (18 : Int32) = nI 18 from rfl, show (19 : Int32) = nI 19 from rfl, nI_eq (by omega) (by decide), nI_eq (by omega) (by decide)]
    have ew : (y_wm a m q).toNatClampNeg = w := by rw [hw]; exact nI_clamp (by omega)
    have no : ∀ j, j < 25 → nI j ≠ -1 := by decide +kernel
    have hs : y_sa a m q = 1 := y_wm_sa (by rw [hw]; exact no w hw25)
    have hn := y_nxt_gt (a := a) (m := m) (q := q) (by rw [hs]; decide)
    rw [hw]
    refine x_wp_ok ok62 [24] 6 ?_
    refine Exists.intro _ (And.intro (c_isStepWord hw25) (And.intro (And.intro (Nat.zero_le _) (Nat.zero_le _)) (fun q h' hpo => ?_)))
    obtain ⟨rfl, rfl⟩ := hpo
    by_cases hb : 11 ≤ w ∧ w ≤ 21 ∧ w ≠ 20
    · rw [decide_eq_true hb]
      refine And.intro (fun _ => ?_) (fun c => absurd (show (1 : Int32) = 0 from c) (by decide))
      by_cases h30 : S.2.2.1 = 30
      · have hY : Y = .inl (y_fl a m q 6) := by
          rw [hYd]
          unfold y_rst
          rw [if_neg hw20, if_neg (by rw [l1, l2]; omega), if_pos h30]
        refine x_wp_ok ok62 [48, 58] 6 ?_
        refine And.intro (fun _ => ?_) (fun c => absurd (show nI 30 ≤ f 39 1 by rw [e1, h30]; decide) c)
        refine x_wp_ok ok62 [] 6 ?_
        refine Exists.intro _ (And.intro (c_fail (k := 6) hS.1) (And.intro (And.intro (Nat.zero_le _) (Nat.zero_le _)) (fun zq h' hpo => ?_)))
        obtain ⟨rfl, F1, rfl, u1, u2⟩ := hpo
        refine And.intro ?_ ⟨Or.inl rfl, Nat.le_refl _, Nat.le_refl _⟩
        exact fl 6 hY F1 u1 u2
      · have hNL : S.2.1 < 60 := by omega
        -- from the line on
        have st140 : ∀ F2 (dp' : Nat) (op' : Nat → Nat) (x2 : Int32), x_W4 39 S f g dp' op' (y_tr (nI w)) S.2.2.1 S.2.1 F2 g → x_RC a m q F2 g → (∀ k, k < S.2.1 → (∀ i, i < dp' → op' i ≠ k) → y_cl S k) → ((w = 18 ∨ w = 19) → ∃ i, i < dp' ∧ op' i = S.2.1) → Y = y_bd (y_ordr a m N (v 2 0 0) (v 0 0 0) (v 1 0 0) w (y_nxt a m q)) (fun z => y_bd (y_sgn a m 59 z.2) (fun q2 => .inr ((y_lne S.1 S.2.1 z.1, S.2.1 + 1, S.2.2.1 + 1, dp', op'), q2))) → x_J 62 (d + 4) Po 140 [some (.ref 610), some (.int (y_tr (nI w))), some (.int x2), some (.int (nI S.2.1)), none] [] (F2, g, x_HR 12 32, dm, n) 0 0 := by
          intro F2 dp' op' x2 hW hR2 hcl hcn hY
          obtain ⟨w1, w2, w3, w4, w5, w6, w7⟩ := hW
          obtain ⟨F3, hF3⟩ : ∃ F3, F3 = x_up (x_up F2 39 1 (nI (S.2.2.1 + 1))) 39 2 (nI (S.2.1 + 1)) := ⟨_, rfl⟩
          have hF3' : F3 = x_up (x_up F2 39 1 (F2 39 1 + Int32.ofInt 1)) 39 2 (x_up F2 39 1 (F2 39 1 + Int32.ofInt 1) 39 2 + Int32.ofInt 1) := by rw [x_up_j (by decide), w2, w3, nI_1o, nI_1o, hF3]
          have r3 : x_RC a m q F3 g := by
            rw [hF3]
            exact x_RC_up (by decide) (x_RC_up (by decide) hR2)
          have o3 : ∀ c, c ≠ 39 → F3 c = F2 c := fun c hc => by rw [hF3, x_up_k hc, x_up_k hc]
          have W3 : x_W4 39 S f g dp' op' (y_tr (nI w)) (S.2.2.1 + 1) (S.2.1 + 1) F3 g := by
            refine ⟨?_, ?_, ?_, ?_, fun i hi => ?_, fun c c1 c2 k hk => ?_, ?_⟩
            · rw [hF3]
              exact x_fR_t w1 (x_fR_t (x_fR_up (Or.inr (Or.inr (by decide)))) (x_fR_up (Or.inr (Or.inr (by decide)))))
            · rw [hF3, x_up_j (by decide), x_up_s]
            · rw [hF3, x_up_s]
            · rw [o3 610 (by decide)]; exact w4
            · rw [o3 611 (by decide)]; exact w5 i hi
            · rw [o3 c (by omega)]; exact w6 c c1 c2 k hk
            · rw [o3 _ (by decide)]; exact w7
          refine x_wp_ok ok62 [173] 6 ?_
          show ∃ P, x_Ct 82 (d + 3) [.ref 10] (x_up (x_up F2 39 1 (F2 39 1 + Int32.ofInt 1)) 39 2 (x_up F2 39 1 (F2 39 1 + Int32.ofInt 1) 39 2 + Int32.ofInt 1), g, x_HR 12 32, dm, n) P ∧ _
          rw [← hF3']
          refine Exists.intro _ (And.intro (c_adv hT r3 (by rw [hs]; decide) (by rw [hs]; decide)) (And.intro (And.intro (Nat.zero_le _) (Nat.zero_le _)) (fun zq h' hpo => ?_)))
          obtain ⟨rfl, F4, G4, rfl, u1, -, u3⟩ := hpo
          refine c_stepOrd_12_32 hb.1 hb.2.1 hb.2.2 hT hn.2 hNL hPo hS (x_W4_k (by decide) W3 (x_fk_10 (by decide) u1)) u3 h0 h1 h2 b0 b1 b2 hN hcl hcn hY
        have hC0 : ∀ c, 40 ≤ c → c ≤ 45 → ∀ k, k ≠ S.2.1 → x_up f 40 S.2.1 (y_tr (nI w)) c k = f c k := by
          intro c c1 c2 k hk
          by_cases e : c = 40
          · rw [e, x_up_j hk]
          · rw [x_up_k e]
        have st98 : ∀ b : Bool, (b = true ↔ (w = 18 ∨ w = 19)) → ¬ (b = true ∧ S.2.2.2.1 = 3) → x_J 62 (d + 4) Po 98 [some (.ref 610), some (.int (y_tr (nI w))), some (.int (x_bo b)), none, none] [] (f, g, x_HR 12 32, dm, n) 0 0 := by
          intro b hb18 hb3
          have cN : (nI S.2.1).toNatClampNeg = S.2.1 := nI_clamp (by omega)
          have hYg : Y = y_bd (y_ordr a m N (v 2 0 0) (v 0 0 0) (v 1 0 0) w (y_nxt a m q)) (fun z => y_bd (y_sgn a m 59 z.2) (fun q2 => .inr ((y_lne S.1 S.2.1 z.1, S.2.1 + 1, S.2.2.1 + 1, if y_wm a m q = 18 ∨ y_wm a m q = 19 then S.2.2.2.1 + 1 else S.2.2.2.1, if y_wm a m q = 18 ∨ y_wm a m q = 19 then va_up S.2.2.2.2 S.2.2.2.1 S.2.1 else S.2.2.2.2), q2))) := by
            rw [hYd]
            unfold y_rst
            rw [if_neg hw20, if_neg (by rw [l1, l2]; omega), if_neg h30, if_neg (fun h => hb3 ⟨hb18.mpr (e18.mp h.1), h.2⟩), ew]
          refine x_wp_ok ok62 [106] 6 ?_
          show x_J 62 (d + 4) Po 106 [some (.ref 610), some (.int (y_tr (nI w))), some (.int (x_bo b)), some (.int (f 39 2)), none] [] (f, g, x_HR 12 32, dm, n) 0 0
          rw [e2]
          refine x_wp_ok ok62 [140] 6 ?_
          refine And.intro (x_ix_nI (by omega) (by omega)) ?_
          cases hbb : b with
          | false =>
            have nb : ¬ (w = 18 ∨ w = 19) := fun h => by rw [hb18.mpr h] at hbb; cases hbb
            rw [if_neg (fun h => nb (e18.mp h)), if_neg (fun h => nb (e18.mp h))] at hYg
            refine And.intro (fun _ => ?_) (fun c => absurd rfl c)
            rw [cN]
            refine st140 (x_up f 40 S.2.1 (y_tr (nI w))) S.2.2.2.1 S.2.2.2.2 _ ⟨x_fR_up (Or.inr (Or.inr (by decide))), ?_, ?_, ?_, fun i hi => ?_, hC0, x_up_s _ _ _ _⟩ (x_RC_up (by decide) hS.1) (fun k _ h => h) (fun h => absurd h nb) hYg
            · rw [x_up_k (by decide)]; exact e1
            · rw [x_up_k (by decide)]; exact e2
            · rw [x_up_k (by decide)]; exact e4
            · rw [x_up_k (by decide)]; exact hS.2.2.2.2.1 i hi
          | true =>
            have yb := hb18.mp hbb
            have d3 : S.2.2.2.1 < 3 := by
              have : S.2.2.2.1 ≠ 3 := fun e => hb3 ⟨hbb, e⟩
              omega
            rw [if_pos (e18.mpr yb), if_pos (e18.mpr yb)] at hYg
            refine And.intro (fun c => absurd (show (1 : Int32) = 0 from c) (by decide)) (fun _ => ?_)
            refine And.intro (by show x_ix (f 610 4) 3; rw [e4]; exact x_ix_nI (by omega) (by omega)) ?_
            have c4 : (f 610 4).toNatClampNeg = S.2.2.2.1 := by rw [e4]; exact nI_clamp (by omega)
            obtain ⟨F2, hF2⟩ : ∃ F2, F2 = x_up (x_up (x_up f 40 S.2.1 (y_tr (nI w))) 611 S.2.2.2.1 (nI S.2.1)) 610 4 (nI (S.2.2.2.1 + 1)) := ⟨_, rfl⟩
            have hF2' : F2 = x_up (x_up (x_up f 40 (nI S.2.1).toNatClampNeg (y_tr (nI w))) 611 (f 610 4).toNatClampNeg (nI S.2.1)) 610 4 (f 610 4 + Int32.ofInt 1) := by rw [hF2, cN, c4, e4, nI_1o]
            show x_J 62 (d + 4) Po 140 [some (.ref 610), some (.int (y_tr (nI w))), some (.int 1), some (.int (nI S.2.1)), none] [] (x_up (x_up (x_up f 40 (nI S.2.1).toNatClampNeg (y_tr (nI w))) 611 (f 610 4).toNatClampNeg (nI S.2.1)) 610 4 (f 610 4 + Int32.ofInt 1), g, x_HR 12 32, dm, n) 0 0
            rw [← hF2']
            have o2 : ∀ c, c ≠ 610 → c ≠ 611 → F2 c = x_up f 40 S.2.1 (y_tr (nI w)) c := fun c c1 c2 => by rw [hF2, x_up_k c1, x_up_k c2]
            refine st140 F2 (S.2.2.2.1 + 1) (va_up S.2.2.2.2 S.2.2.2.1 S.2.1) _ ⟨?_, ?_, ?_, ?_, fun i hi => ?_, fun c c1 c2 k hk => ?_, ?_⟩ ?_ (fun k hk h i hi => ?_) (fun _ => ⟨S.2.2.2.1, by omega, x_us⟩) hYg
            · rw [hF2]
              exact x_fR_t (x_fR_up (Or.inr (Or.inr (by decide)))) (x_fR_t (x_fR_up (Or.inr (Or.inl rfl))) (x_fR_up (Or.inl rfl)))
            · rw [o2 _ (by decide) (by decide), x_up_k (by decide)]; exact e1
            · rw [o2 _ (by decide) (by decide), x_up_k (by decide)]; exact e2
            · rw [hF2, x_up_s]
            · rw [hF2, x_up_k (by decide)]
              by_cases ei : i = S.2.2.2.1
              · rw [ei, x_up_s, x_us]
              · rw [x_up_j ei, x_up_k (by decide), x_un ei]
                exact hS.2.2.2.2.1 i (by omega)
            · rw [o2 c (by omega) (by omega)]
              exact hC0 c c1 c2 k hk
            · rw [o2 _ (by decide) (by decide)]
              exact x_up_s _ _ _ _
            · rw [hF2]
              exact x_RC_up (by decide) (x_RC_up (by decide) (x_RC_up (by decide) hS.1))
            · have hi : i < S.2.2.2.1 := hi
              have := h i (by omega)
              rw [x_un (by omega)] at this
              exact this
        have st76 : ∀ b : Bool, (b = true ↔ (w = 18 ∨ w = 19)) → x_J 62 (d + 4) Po 76 [some (.ref 610), some (.int (y_tr (nI w))), some (.int (x_bo b)), none, none] [] (f, g, x_HR 12 32, dm, n) 0 0 := by
          intro b hb18
          refine x_wp_ok ok62 [98] 6 ?_
          cases hbb : b with
          | false =>
            refine And.intro (fun _ => ?_) (fun c => absurd rfl c)
            rw [hbb] at hb18
            exact st98 false hb18 (fun h => by cases h.1)
          | true =>
            rw [hbb] at hb18
            refine And.intro (fun c => absurd (show (1 : Int32) = 0 from c) (by decide)) (fun _ => ?_)
            by_cases h3 : S.2.2.2.1 = 3
            · have hY : Y = .inl (y_fl a m q 7) := by
                rw [hYd]
                unfold y_rst
                rw [if_neg hw20, if_neg (by rw [l1, l2]; omega), if_neg h30, if_pos ⟨e18.mpr (hb18.mp rfl), h3⟩]
              refine And.intro (fun c => absurd (show f 610 4 < nI 3 from c) (by rw [e4, h3]; decide)) (fun _ => ?_)
              refine Exists.intro _ (And.intro (c_fail (k := 7) hS.1) (And.intro (And.intro (Nat.zero_le _) (Nat.zero_le _)) (fun zq h' hpo => ?_)))
              obtain ⟨rfl, F1, rfl, u1, u2⟩ := hpo
              refine And.intro ?_ ⟨Or.inl rfl, Nat.le_refl _, Nat.le_refl _⟩
              exact fl 7 hY F1 u1 u2
            · refine And.intro (fun _ => ?_) (fun c => absurd (show f 610 4 < nI 3 by rw [e4]; exact nI_lt (by omega) (by decide)) c)
              exact st98 true hb18 (fun h => h3 h.2)
        refine x_wp_ok ok62 [48, 58] 6 ?_
        refine And.intro (fun c => absurd (show nI 30 ≤ f 39 1 from c) (by rw [e1]; exact nI_ge (by omega) (by decide))) (fun _ => ?_)
        refine And.intro (fun _ => ?_) (fun c => absurd (show f 39 2 < nI 60 by rw [e2]; exact nI_lt hNL (by decide)) c)
        refine x_wp_ok ok62 [76] 6 ?_
        obtain ⟨t18, t22⟩ := y_tr_18 hw25
        refine And.intro (fun c => ?_) (fun c => ?_)
        · exact st76 true ⟨fun _ => Or.inl (t18.mp c), fun _ => rfl⟩
        · have c : ¬ y_tr (nI w) = 18 := c
          refine And.intro (fun c2 => ?_) (fun c2 => ?_)
          · have c2 : ¬ y_tr (nI w) = 22 := c2
            exact st76 false ⟨fun h => absurd h (by decide), fun h => absurd h (fun h => h.elim (fun h => c (t18.mpr h)) (fun h => c2 (t22.mpr h)))⟩
          · exact st76 true ⟨fun _ => Or.inr (t22.mp c2), fun _ => rfl⟩
    · have hY : Y = .inl (y_fl a m q 2) := by
        rw [hYd]
        unfold y_rst
        rw [if_neg hw20, if_pos (by rw [l1, l2]; omega)]
      rw [decide_eq_false hb]
      refine And.intro (fun c => absurd rfl c) (fun _ => ?_)
      refine Exists.intro _ (And.intro (c_fail (k := 2) hS.1) (And.intro (And.intro (Nat.zero_le _) (Nat.zero_le _)) (fun zq h' hpo => ?_)))
      obtain ⟨rfl, F1, rfl, u1, u2⟩ := hpo
      refine And.intro ?_ ⟨Or.inl rfl, Nat.le_refl _, Nat.le_refl _⟩
      exact fl 2 hY F1 u1 u2
theorem c_stepOrd_12_39 {dp' : Nat} {op' : Nat → Nat} {x2 : Int32} {Po : Option Value → xH → Prop} (hw1 : 11 ≤ w) (hw2 : w ≤ 21) (hw3 : w ≠ 20) (hT : y_TP a m) (hq : q ≤ m) (hNL : S.2.1 < 60) (hPo : Po = x_PR 32 a m f g (x_HR 12 39) dm n Y) (hS : x_RS 32 a m S r f g) (hW : x_W4 32 S f g dp' op' (y_tr (nI w)) (S.2.2.1 + 1) (S.2.1 + 1) F G) (hR : x_RC a m q F G) (h0 : f 12 0 = nI (v 0 0 0)) (h1 : f 12 1 = nI (v 1 0 0)) (h2 : f 12 2 = nI (v 2 0 0)) (b0 : v 0 0 0 ≤ 4) (b1 : v 1 0 0 ≤ 5) (b2 : v 2 0 0 ≤ 5) (hN : y_NR (g 14) v N) (hcl : ∀ k, k < S.2.1 → (∀ i, i < dp' → op' i ≠ k) → y_cl S k) (hcn : (w = 18 ∨ w = 19) → ∃ i, i < dp' ∧ op' i = S.2.1) (hY : Y = y_bd (y_ordr a m N (v 2 0 0) (v 0 0 0) (v 1 0 0) w q) (fun z => y_bd (y_sgn a m 59 z.2) (fun q2 => .inr ((y_lne S.1 S.2.1 z.1, S.2.1 + 1, S.2.2.1 + 1, dp', op'), q2)))) : x_J 62 (d + 4) Po 173 [some (.ref 610), some (.int (y_tr (nI w))), some (.int x2), some (.int (nI S.2.1)), none] [] (F, G, x_HR 12 39, dm, n) 0 0 := by
  have hTT : (32 : Nat) = 32 ∨ (32 : Nat) = 39 := by decide
  have g0 : F 12 0 = nI (v 0 0 0) := by rw [hW.1.1 12 (by decide) (by decide) (by decide) (by decide)]; exact h0
  have g1 : F 12 1 = nI (v 1 0 0) := by rw [hW.1.1 12 (by decide) (by decide) (by decide) (by decide)]; exact h1
  have g2 : F 12 2 = nI (v 2 0 0) := by rw [hW.1.1 12 (by decide) (by decide) (by decide) (by decide)]; exact h2
  have gN : y_NR (G 14) v N := by rw [hW.1.2 14 (by decide)]; exact hN
  have fin : ∀ (z : xN5 × Nat) F5 G5 cw, y_ordr a m N (v 2 0 0) (v 0 0 0) (v 1 0 0) w q = .inr z → x_fk 32 S.2.1 F G F5 G5 → x_RC a m z.2 F5 G5 → x_od 32 S.2.1 z.1 F5 → y_tr (nI w) = nI (y_wd z.1.1) → (17 < z.1.1 → z.1.1 ≠ 24 → w = 18 ∨ w = 19) → z.1.1 ≠ 23 → x_J 62 (d + 4) Po 254 [some (.ref 610), some (.int cw), some (.int x2), some (.int (nI S.2.1)), some (.int 1)] [] (F5, G5, x_HR 12 39, dm, n) 0 0 := by
    intro z F5 G5 cw hX hk hR5 hod hD hop hn
    obtain ⟨w1, w2, w3, w4, w5, w6, w7⟩ := x_W4_k hTT hW hk
    exact c_stepFin_12_39 hT hNL hPo hS w1 w2 w3 w4 w5 w6 (w7.trans hD) hR5 hod hn hcl (fun h17 h24 => hcn (hop h17 h24)) (by rw [hY, hX]; rfl)
  have bad : ∀ (e : Nat × Nat) F5 G5 cw, y_ordr a m N (v 2 0 0) (v 0 0 0) (v 1 0 0) w q = .inl e → x_fk 32 S.2.1 F G F5 G5 → x_FL F5 e → x_J 62 (d + 4) Po 254 [some (.ref 610), some (.int cw), some (.int x2), some (.int (nI S.2.1)), some (.int 0)] [] (F5, G5, x_HR 12 39, dm, n) 0 0 := by
    intro e F5 G5 cw hX hk he
    exact c_stepNo_12_39 hNL hPo (x_fR_t hW.1 (x_fR_k hk)) he (by rw [hY, hX]; rfl)
  have hww : w = 11 ∨ w = 12 ∨ w = 13 ∨ w = 14 ∨ w = 15 ∨ w = 16 ∨ w = 17 ∨ w = 18 ∨ w = 19 ∨ w = 21 := by omega
  rcases hww with rfl | rfl | rfl | rfl | rfl | rfl | rfl | rfl | rfl | rfl
  · refine x_wp_ok ok62 [254] 6 ?_
    refine And.intro (fun _ => ?_) (fun c => absurd c (by decide))
    refine And.intro (fun _ => ?_) (fun c => absurd c (by decide))
    refine And.intro (fun _ => ?_) (fun c => absurd c (by decide))
    refine And.intro (fun c => absurd c (by decide)) (fun _ => ?_)
    refine And.intro (fun c => absurd c (by decide)) (fun _ => ?_)
    refine Exists.intro _ (And.intro (c_readDeedK_12_39 (w := 11) (N := N) (v := v) (Or.inl rfl) hT hq hNL hR g0 g2 b0 b2 gN) (And.intro (And.intro (Nat.zero_le _) (Nat.zero_le _)) (fun zq h' hpo => ?_)))
    cases e1 : y_deed a m N (v 2 0 0) (v 0 0 0) 0 11 q with
    | inl e =>
      rw [e1] at hpo
      obtain ⟨rfl, F5, G5, rfl, u1, u2⟩ := hpo
      exact bad e F5 G5 _ ((y_ordr_K (Or.inl rfl)).trans e1) u1 u2
    | inr z =>
      rw [e1] at hpo
      obtain ⟨rfl, F5, G5, rfl, u1, u2, u3⟩ := hpo
      have ez : z.1.1 = 11 := by
        unfold y_deed at e1
        obtain ⟨p1, -, e1⟩ := y_bd_inr e1
        obtain ⟨p2, -, e1⟩ := y_bd_inr e1
        obtain ⟨p3, -, e1⟩ := y_bd_inr e1
        cases e1
        rfl
      exact fin z F5 G5 _ ((y_ordr_K (Or.inl rfl)).trans e1) u1 u2 u3 (by rw [ez]; decide) (fun h => by rw [ez] at h; exact absurd h (by decide)) (by rw [ez]; decide)
  · refine x_wp_ok ok62 [254] 6 ?_
    refine And.intro (fun _ => ?_) (fun c => absurd c (by decide))
    refine And.intro (fun _ => ?_) (fun c => absurd c (by decide))
    refine And.intro (fun _ => ?_) (fun c => absurd c (by decide))
    refine And.intro (fun c => absurd c (by decide)) (fun _ => ?_)
    refine And.intro (fun c => absurd c (by decide)) (fun _ => ?_)
    refine Exists.intro _ (And.intro (c_readDeedG_12_39 (w := 12) (N := N) (v := v) (Or.inl rfl) hT hq hNL hR g1 g2 b1 b2 gN) (And.intro (And.intro (Nat.zero_le _) (Nat.zero_le _)) (fun zq h' hpo => ?_)))
    cases e1 : y_deed a m N (v 2 0 0) (v 1 0 0) 4 12 q with
    | inl e =>
      rw [e1] at hpo
      obtain ⟨rfl, F5, G5, rfl, u1, u2⟩ := hpo
      exact bad e F5 G5 _ ((y_ordr_G (Or.inl rfl)).trans e1) u1 u2
    | inr z =>
      rw [e1] at hpo
      obtain ⟨rfl, F5, G5, rfl, u1, u2, u3⟩ := hpo
      have ez : z.1.1 = 12 := by
        unfold y_deed at e1
        obtain ⟨p1, -, e1⟩ := y_bd_inr e1
        obtain ⟨p2, -, e1⟩ := y_bd_inr e1
        obtain ⟨p3, -, e1⟩ := y_bd_inr e1
        cases e1
        rfl
      exact fin z F5 G5 _ ((y_ordr_G (Or.inl rfl)).trans e1) u1 u2 u3 (by rw [ez]; decide) (fun h => by rw [ez] at h; exact absurd h (by decide)) (by rw [ez]; decide)
  · refine x_wp_ok ok62 [254] 6 ?_
    refine And.intro (fun _ => ?_) (fun c => absurd c (by decide))
    refine And.intro (fun _ => ?_) (fun c => absurd c (by decide))
    refine And.intro (fun _ => ?_) (fun c => absurd c (by decide))
    refine And.intro (fun c => absurd c (by decide)) (fun _ => ?_)
    refine And.intro (fun c => absurd c (by decide)) (fun _ => ?_)
    refine Exists.intro _ (And.intro (c_readDeedG_12_39 (w := 13) (N := N) (v := v) (Or.inr rfl) hT hq hNL hR g1 g2 b1 b2 gN) (And.intro (And.intro (Nat.zero_le _) (Nat.zero_le _)) (fun zq h' hpo => ?_)))
    cases e1 : y_deed a m N (v 2 0 0) (v 1 0 0) 4 13 q with
    | inl e =>
      rw [e1] at hpo
      obtain ⟨rfl, F5, G5, rfl, u1, u2⟩ := hpo
      exact bad e F5 G5 _ ((y_ordr_G (Or.inr rfl)).trans e1) u1 u2
    | inr z =>
      rw [e1] at hpo
      obtain ⟨rfl, F5, G5, rfl, u1, u2, u3⟩ := hpo
      have ez : z.1.1 = 13 := by
        unfold y_deed at e1
        obtain ⟨p1, -, e1⟩ := y_bd_inr e1
        obtain ⟨p2, -, e1⟩ := y_bd_inr e1
        obtain ⟨p3, -, e1⟩ := y_bd_inr e1
        cases e1
        rfl
      exact fin z F5 G5 _ ((y_ordr_G (Or.inr rfl)).trans e1) u1 u2 u3 (by rw [ez]; decide) (fun h => by rw [ez] at h; exact absurd h (by decide)) (by rw [ez]; decide)
  · refine x_wp_ok ok62 [254] 6 ?_
    refine And.intro (fun _ => ?_) (fun c => absurd c (by decide))
    refine And.intro (fun _ => ?_) (fun c => absurd c (by decide))
    refine And.intro (fun _ => ?_) (fun c => absurd c (by decide))
    refine And.intro (fun c => absurd c (by decide)) (fun _ => ?_)
    refine And.intro (fun c => absurd c (by decide)) (fun _ => ?_)
    refine Exists.intro _ (And.intro (c_readDeedK_12_39 (w := 14) (N := N) (v := v) (Or.inr (Or.inl rfl)) hT hq hNL hR g0 g2 b0 b2 gN) (And.intro (And.intro (Nat.zero_le _) (Nat.zero_le _)) (fun zq h' hpo => ?_)))
    cases e1 : y_deed a m N (v 2 0 0) (v 0 0 0) 0 14 q with
    | inl e =>
      rw [e1] at hpo
      obtain ⟨rfl, F5, G5, rfl, u1, u2⟩ := hpo
      exact bad e F5 G5 _ ((y_ordr_K (Or.inr (Or.inl rfl))).trans e1) u1 u2
    | inr z =>
      rw [e1] at hpo
      obtain ⟨rfl, F5, G5, rfl, u1, u2, u3⟩ := hpo
      have ez : z.1.1 = 14 := by
        unfold y_deed at e1
        obtain ⟨p1, -, e1⟩ := y_bd_inr e1
        obtain ⟨p2, -, e1⟩ := y_bd_inr e1
        obtain ⟨p3, -, e1⟩ := y_bd_inr e1
        cases e1
        rfl
      exact fin z F5 G5 _ ((y_ordr_K (Or.inr (Or.inl rfl))).trans e1) u1 u2 u3 (by rw [ez]; decide) (fun h => by rw [ez] at h; exact absurd h (by decide)) (by rw [ez]; decide)
  · refine x_wp_ok ok62 [254] 6 ?_
    refine And.intro (fun _ => ?_) (fun c => absurd c (by decide))
    refine And.intro (fun _ => ?_) (fun c => absurd c (by decide))
    refine And.intro (fun _ => ?_) (fun c => absurd c (by decide))
    refine And.intro (fun c => absurd c (by decide)) (fun _ => ?_)
    refine And.intro (fun c => absurd c (by decide)) (fun _ => ?_)
    refine Exists.intro _ (And.intro (c_readDeedK_12_39 (w := 15) (N := N) (v := v) (Or.inr (Or.inr rfl)) hT hq hNL hR g0 g2 b0 b2 gN) (And.intro (And.intro (Nat.zero_le _) (Nat.zero_le _)) (fun zq h' hpo => ?_)))
    cases e1 : y_deed a m N (v 2 0 0) (v 0 0 0) 0 15 q with
    | inl e =>
      rw [e1] at hpo
      obtain ⟨rfl, F5, G5, rfl, u1, u2⟩ := hpo
      exact bad e F5 G5 _ ((y_ordr_K (Or.inr (Or.inr rfl))).trans e1) u1 u2
    | inr z =>
      rw [e1] at hpo
      obtain ⟨rfl, F5, G5, rfl, u1, u2, u3⟩ := hpo
      have ez : z.1.1 = 15 := by
        unfold y_deed at e1
        obtain ⟨p1, -, e1⟩ := y_bd_inr e1
        obtain ⟨p2, -, e1⟩ := y_bd_inr e1
        obtain ⟨p3, -, e1⟩ := y_bd_inr e1
        cases e1
        rfl
      exact fin z F5 G5 _ ((y_ordr_K (Or.inr (Or.inr rfl))).trans e1) u1 u2 u3 (by rw [ez]; decide) (fun h => by rw [ez] at h; exact absurd h (by decide)) (by rw [ez]; decide)
  · refine x_wp_ok ok62 [254] 6 ?_
    refine And.intro (fun c => absurd rfl c) (fun _ => ?_)
    refine Exists.intro _ (And.intro (c_takeNumber (lo := 1) (hi := 20) (by decide) (by decide) hT hR) (And.intro (And.intro (Nat.zero_le _) (Nat.zero_le _)) (fun zq h' hpo => ?_)))
    cases e1 : y_nbr a m 1 20 q with
    | inl e =>
      obtain ⟨rfl, F5, G5, rfl, u1, u2⟩ := x_PT_l e1 hpo
      refine bad e F5 G5 _ (y_ordr_16.trans ?_) (x_fk_10 (by decide) u1) u2
      unfold y_numb
      rw [e1]
      rfl
    | inr x =>
      obtain ⟨rfl, F5, G5, rfl, u1, u2, u3⟩ := x_PT_r e1 hpo
      refine fin ((16, 0, 0, x.1, 0), x.2) F5 G5 _ (y_ordr_16.trans ?_) (x_fk_10 (by decide) u1) u2 ⟨fun h => absurd (show (16 : Nat) ≤ 15 from h) (by decide), fun h => absurd (show 18 ≤ (16 : Nat) ∧ (16 : Nat) ≤ 20 from h) (by decide), fun _ _ => u3⟩ (show y_tr (nI 16) = nI (y_wd 16) by decide) (fun h _ => absurd (show 17 < (16 : Nat) from h) (by decide)) (show (16 : Nat) ≠ 23 by decide)
      unfold y_numb
      rw [e1]
      rfl
  · refine x_wp_ok ok62 [254] 6 ?_
    refine And.intro (fun _ => ?_) (fun c => absurd c (by decide))
    refine And.intro (fun _ => ?_) (fun c => absurd c (by decide))
    refine And.intro (fun _ => ?_) (fun c => absurd c (by decide))
    refine And.intro (fun _ => ?_) (fun c => absurd rfl c)
    exact fin ((17, 0, 0, 0, 0), q) F G _ y_ordr_17 x_fk_r hR ⟨fun h => absurd (show (17 : Nat) ≤ 15 from h) (by decide), fun h => absurd (show 18 ≤ (17 : Nat) ∧ (17 : Nat) ≤ 20 from h) (by decide), fun h => absurd rfl h⟩ (show y_tr (nI 17) = nI (y_wd 17) by decide) (fun h => absurd (show 17 < (17 : Nat) from h) (by decide)) (show (17 : Nat) ≠ 23 by decide)
  · refine x_wp_ok ok62 [254] 6 ?_
    refine And.intro (fun _ => ?_) (fun c => absurd c (by decide))
    refine And.intro (fun _ => ?_) (fun c => absurd c (by decide))
    refine And.intro (fun c => absurd rfl c) (fun _ => ?_)
    refine Exists.intro _ (And.intro (c_readTest_12_39 (N := N) (v := v) hT hq hNL hR g1 g2 b1 b2 gN) (And.intro (And.intro (Nat.zero_le _) (Nat.zero_le _)) (fun zq h' hpo => ?_)))
    cases e1 : y_tst a m N (v 2 0 0) (v 1 0 0) q with
    | inl e =>
      rw [e1] at hpo
      obtain ⟨rfl, F5, G5, rfl, u1, u2⟩ := hpo
      exact bad e F5 G5 _ (y_ordr_18.trans e1) u1 u2
    | inr z =>
      rw [e1] at hpo
      obtain ⟨rfl, F5, G5, rfl, u1, u2, u3⟩ := hpo
      have ez := y_tst_o e1
      exact fin z F5 G5 _ (y_ordr_18.trans e1) u1 u2 u3 (by rw [y_wd_18 ez]; decide) (fun _ _ => Or.inl rfl) (by omega)
  · refine x_wp_ok ok62 [254] 6 ?_
    refine And.intro (fun _ => ?_) (fun c => absurd c (by decide))
    refine And.intro (fun c => absurd rfl c) (fun _ => ?_)
    refine Exists.intro _ (And.intro (c_takeNumber (lo := 1) (hi := 99) (by decide) (by decide) hT hR) (And.intro (And.intro (Nat.zero_le _) (Nat.zero_le _)) (fun zq h' hpo => ?_)))
    cases e1 : y_nbr a m 1 99 q with
    | inl e =>
      obtain ⟨rfl, F5, G5, rfl, u1, u2⟩ := x_PT_l e1 hpo
      refine bad e F5 G5 _ (y_ordr_19.trans ?_) (x_fk_10 (by decide) u1) u2
      unfold y_numb
      rw [e1]
      rfl
    | inr x =>
      obtain ⟨rfl, F5, G5, rfl, u1, u2, u3⟩ := x_PT_r e1 hpo
      refine fin ((22, 0, 0, x.1, 0), x.2) F5 G5 _ (y_ordr_19.trans ?_) (x_fk_10 (by decide) u1) u2 ⟨fun h => absurd (show (22 : Nat) ≤ 15 from h) (by decide), fun h => absurd (show 18 ≤ (22 : Nat) ∧ (22 : Nat) ≤ 20 from h) (by decide), fun _ _ => u3⟩ (show y_tr (nI 19) = nI (y_wd 22) by decide) (fun h _ => Or.inr rfl) (show (22 : Nat) ≠ 23 by decide)
      unfold y_numb
      rw [e1]
      rfl
  · refine x_wp_ok ok62 [254] 6 ?_
    refine And.intro (fun _ => ?_) (fun c => absurd c (by decide))
    refine And.intro (fun _ => ?_) (fun c => absurd c (by decide))
    refine And.intro (fun _ => ?_) (fun c => absurd c (by decide))
    refine And.intro (fun c => absurd c (by decide)) (fun _ => ?_)
    refine And.intro (fun _ => ?_) (fun c => absurd rfl c)
    exact fin ((24, 0, 0, 0, 0), q) F G _ y_ordr_21 x_fk_r hR ⟨fun h => absurd (show (24 : Nat) ≤ 15 from h) (by decide), fun h => absurd (show 18 ≤ (24 : Nat) ∧ (24 : Nat) ≤ 20 from h) (by decide), fun _ h => absurd rfl h⟩ (show y_tr (nI 21) = nI (y_wd 24) by decide) (fun _ h => absurd rfl h) (show (24 : Nat) ≠ 23 by decide)
theorem c_readStep_12_39 (hT : y_TP a m) (hI : y_RI (v 2 0 0) (v 0 0 0) (v 1 0 0) S) (hS : x_RS 32 a m S q f g) (h0 : f 12 0 = nI (v 0 0 0)) (h1 : f 12 1 = nI (v 1 0 0)) (h2 : f 12 2 = nI (v 2 0 0)) (b0 : v 0 0 0 ≤ 4) (b1 : v 1 0 0 ≤ 5) (b2 : v 2 0 0 ≤ 5) (hN : y_NR (g 14) v N) (hw20 : y_wm a m q ≠ 20) : x_Ct 62 (d + 4) [.ref 610] (f, g, x_HR 12 39, dm, n) (x_PR 32 a m f g (x_HR 12 39) dm n (y_rst a m N (v 2 0 0) (v 0 0 0) (v 1 0 0) S q)) := by
  obtain ⟨Y, hYd⟩ : ∃ Y, Y = y_rst a m N (v 2 0 0) (v 0 0 0) (v 1 0 0) S q := ⟨_, rfl⟩
  rw [← hYd]
  obtain ⟨Po, hPo⟩ : ∃ Po : Option Value → xH → Prop, Po = x_PR 32 a m f g (x_HR 12 39) dm n Y := ⟨_, rfl⟩
  rw [← hPo]
  have hst := hI.2.1
  have hdp := hI.2.2.1
  have hnl := hI.1
  have e1 : f 32 1 = nI S.2.2.1 := hS.2.1
  have e2 : f 32 2 = nI S.2.1 := hS.2.2.1
  have e4 : f 610 4 = nI S.2.2.2.1 := hS.2.2.2.1
  have fl : ∀ k, Y = .inl (y_fl a m q k) → ∀ F, x_f10 f g F g → x_FL F (y_fl a m q k) → Po (some (.int 0)) (F, g, x_HR 12 39, dm, n) := by
    intro k hY F u1 u2
    rw [hPo, hY]
    exact ⟨rfl, F, g, rfl, x_fR_10 u1, u2⟩
  refine x_Ct_w (by decide) (Nat.le_of_ble_eq_true rfl) ok62 [8] 6 ?_
  show x_J 62 (d + 4) Po 8 [some (.ref 610), some (.int (f 10 7)), none, none, none] [] (f, g, x_HR 12 39, dm, n) 0 0
  rw [hS.1.2.2.2.2.1]
  rcases y_wm_rg a m q with hw | ⟨w, hw25, hw⟩
  · have hY : Y = .inl (y_fl a m q 2) := by
      rw [hYd]
      unfold y_rst
      rw [if_neg hw20, if_pos (Or.inl (by rw [hw]; decide))]
    rw [hw]
    refine x_wp_ok ok62 [24] 6 ?_
    refine Exists.intro _ (And.intro c_isStepWord_no (And.intro (And.intro (Nat.zero_le _) (Nat.zero_le _)) (fun q h' hpo => ?_)))
    obtain ⟨rfl, rfl⟩ := hpo
    refine And.intro (fun c => absurd rfl c) (fun _ => ?_)
    refine Exists.intro _ (And.intro (c_fail (k := 2) hS.1) (And.intro (And.intro (Nat.zero_le _) (Nat.zero_le _)) (fun zq h' hpo => ?_)))
    obtain ⟨rfl, F1, rfl, u1, u2⟩ := hpo
    refine And.intro ?_ ⟨Or.inl rfl, Nat.le_refl _, Nat.le_refl _⟩
    exact fl 2 hY F1 u1 u2
  · have l1 : y_wm a m q < 11 ↔ w < 11 := by rw [hw]; exact nI_ltI (b := 11) (by omega) (by decide)
    have l2 : 21 < y_wm a m q ↔ 21 < w := by rw [hw]; exact nI_ltI (a := 21) (by decide) (by omega)
    have n20 : w ≠ 20 := fun e => hw20 (by rw [hw, e]; rfl)
    have e18 : (y_wm a m q = 18 ∨ y_wm a m q = 19) ↔ (w = 18 ∨ w = 19) := by
      rw [hw, show (18 : Int32) = nI 18 from rfl, show (19 : Int32) = nI 19 from rfl, nI_eq (by omega) (by decide), nI_eq (by omega) (by decide)]
    have ew : (y_wm a m q).toNatClampNeg = w := by rw [hw]; exact nI_clamp (by omega)
    have no : ∀ j, j < 25 → nI j ≠ -1 := by decide +kernel
    have hs : y_sa a m q = 1 := y_wm_sa (by rw [hw]; exact no w hw25)
    have hn := y_nxt_gt (a := a) (m := m) (q := q) (by rw [hs]; decide)
    rw [hw]
    refine x_wp_ok ok62 [24] 6 ?_
    refine Exists.intro _ (And.intro (c_isStepWord hw25) (And.intro (And.intro (Nat.zero_le _) (Nat.zero_le _)) (fun q h' hpo => ?_)))
    obtain ⟨rfl, rfl⟩ := hpo
    by_cases hb : 11 ≤ w ∧ w ≤ 21 ∧ w ≠ 20
    · rw [decide_eq_true hb]
      refine And.intro (fun _ => ?_) (fun c => absurd (show (1 : Int32) = 0 from c) (by decide))
      by_cases h30 : S.2.2.1 = 30
      · have hY : Y = .inl (y_fl a m q 6) := by
          rw [hYd]
          unfold y_rst
          rw [if_neg hw20, if_neg (by rw [l1, l2]; omega), if_pos h30]
        refine x_wp_ok ok62 [48, 58] 6 ?_
        refine And.intro (fun _ => ?_) (fun c => absurd (show nI 30 ≤ f 32 1 by rw [e1, h30]; decide) c)
        refine x_wp_ok ok62 [] 6 ?_
        refine Exists.intro _ (And.intro (c_fail (k := 6) hS.1) (And.intro (And.intro (Nat.zero_le _) (Nat.zero_le _)) (fun zq h' hpo => ?_)))
        obtain ⟨rfl, F1, rfl, u1, u2⟩ := hpo
        refine And.intro ?_ ⟨Or.inl rfl, Nat.le_refl _, Nat.le_refl _⟩
        exact fl 6 hY F1 u1 u2
      · have hNL : S.2.1 < 60 := by omega
        -- from the line on
        have st140 : ∀ F2 (dp' : Nat) (op' : Nat → Nat) (x2 : Int32), x_W4 32 S f g dp' op' (y_tr (nI w)) S.2.2.1 S.2.1 F2 g → x_RC a m q F2 g → (∀ k, k < S.2.1 → (∀ i, i < dp' → op' i ≠ k) → y_cl S k) → ((w = 18 ∨ w = 19) → ∃ i, i < dp' ∧ op' i = S.2.1) → Y = y_bd (y_ordr a m N (v 2 0 0) (v 0 0 0) (v 1 0 0) w (y_nxt a m q)) (fun z => y_bd (y_sgn a m 59 z.2) (fun q2 => .inr ((y_lne S.1 S.2.1 z.1, S.2.1 + 1, S.2.2.1 + 1, dp', op'), q2))) → x_J 62 (d + 4) Po 140 [some (.ref 610), some (.int (y_tr (nI w))), some (.int x2), some (.int (nI S.2.1)), none] [] (F2, g, x_HR 12 39, dm, n) 0 0 := by
          intro F2 dp' op' x2 hW hR2 hcl hcn hY
          obtain ⟨w1, w2, w3, w4, w5, w6, w7⟩ := hW
          obtain ⟨F3, hF3⟩ : ∃ F3, F3 = x_up (x_up F2 32 1 (nI (S.2.2.1 + 1))) 32 2 (nI (S.2.1 + 1)) := ⟨_, rfl⟩
          have hF3' : F3 = x_up (x_up F2 32 1 (F2 32 1 + Int32.ofInt 1)) 32 2 (x_up F2 32 1 (F2 32 1 + Int32.ofInt 1) 32 2 + Int32.ofInt 1) := by rw [x_up_j (by decide), w2, w3, nI_1o, nI_1o, hF3]
          have r3 : x_RC a m q F3 g := by
            rw [hF3]
            exact x_RC_up (by decide) (x_RC_up (by decide) hR2)
          have o3 : ∀ c, c ≠ 32 → F3 c = F2 c := fun c hc => by rw [hF3, x_up_k hc, x_up_k hc]
          have W3 : x_W4 32 S f g dp' op' (y_tr (nI w)) (S.2.2.1 + 1) (S.2.1 + 1) F3 g := by
            refine ⟨?_, ?_, ?_, ?_, fun i hi => ?_, fun c c1 c2 k hk => ?_, ?_⟩
            · rw [hF3]
              exact x_fR_t w1 (x_fR_t (x_fR_up (Or.inr (Or.inr (by decide)))) (x_fR_up (Or.inr (Or.inr (by decide)))))
            · rw [hF3, x_up_j (by decide), x_up_s]
            · rw [hF3, x_up_s]
            · rw [o3 610 (by decide)]; exact w4
            · rw [o3 611 (by decide)]; exact w5 i hi
            · rw [o3 c (by omega)]; exact w6 c c1 c2 k hk
            · rw [o3 _ (by decide)]; exact w7
          refine x_wp_ok ok62 [173] 6 ?_
          show ∃ P, x_Ct 82 (d + 3) [.ref 10] (x_up (x_up F2 32 1 (F2 32 1 + Int32.ofInt 1)) 32 2 (x_up F2 32 1 (F2 32 1 + Int32.ofInt 1) 32 2 + Int32.ofInt 1), g, x_HR 12 39, dm, n) P ∧ _
          rw [← hF3']
          refine Exists.intro _ (And.intro (c_adv hT r3 (by rw [hs]; decide) (by rw [hs]; decide)) (And.intro (And.intro (Nat.zero_le _) (Nat.zero_le _)) (fun zq h' hpo => ?_)))
          obtain ⟨rfl, F4, G4, rfl, u1, -, u3⟩ := hpo
          refine c_stepOrd_12_39 hb.1 hb.2.1 hb.2.2 hT hn.2 hNL hPo hS (x_W4_k (by decide) W3 (x_fk_10 (by decide) u1)) u3 h0 h1 h2 b0 b1 b2 hN hcl hcn hY
        have hC0 : ∀ c, 33 ≤ c → c ≤ 38 → ∀ k, k ≠ S.2.1 → x_up f 33 S.2.1 (y_tr (nI w)) c k = f c k := by
          intro c c1 c2 k hk
          by_cases e : c = 33
          · rw [e, x_up_j hk]
          · rw [x_up_k e]
        have st98 : ∀ b : Bool, (b = true ↔ (w = 18 ∨ w = 19)) → ¬ (b = true ∧ S.2.2.2.1 = 3) → x_J 62 (d + 4) Po 98 [some (.ref 610), some (.int (y_tr (nI w))), some (.int (x_bo b)), none, none] [] (f, g, x_HR 12 39, dm, n) 0 0 := by
          intro b hb18 hb3
          have cN : (nI S.2.1).toNatClampNeg = S.2.1 := nI_clamp (by omega)
          have hYg : Y = y_bd (y_ordr a m N (v 2 0 0) (v 0 0 0) (v 1 0 0) w (y_nxt a m q)) (fun z => y_bd (y_sgn a m 59 z.2) (fun q2 => .inr ((y_lne S.1 S.2.1 z.1, S.2.1 + 1, S.2.2.1 + 1, if y_wm a m q = 18 ∨ y_wm a m q = 19 then S.2.2.2.1 + 1 else S.2.2.2.1, if y_wm a m q = 18 ∨ y_wm a m q = 19 then va_up S.2.2.2.2 S.2.2.2.1 S.2.1 else S.2.2.2.2), q2))) := by
            rw [hYd]
            unfold y_rst
            rw [if_neg hw20, if_neg (by rw [l1, l2]; omega), if_neg h30, if_neg (fun h => hb3 ⟨hb18.mpr (e18.mp h.1), h.2⟩), ew]
          refine x_wp_ok ok62 [106] 6 ?_
          show x_J 62 (d + 4) Po 106 [some (.ref 610), some (.int (y_tr (nI w))), some (.int (x_bo b)), some (.int (f 32 2)), none] [] (f, g, x_HR 12 39, dm, n) 0 0
          rw [e2]
          refine x_wp_ok ok62 [140] 6 ?_
          refine And.intro (x_ix_nI (by omega) (by omega)) ?_
          cases hbb : b with
          | false =>
            have nb : ¬ (w = 18 ∨ w = 19) := fun h => by rw [hb18.mpr h] at hbb; cases hbb
            rw [if_neg (fun h => nb (e18.mp h)), if_neg (fun h => nb (e18.mp h))] at hYg
            refine And.intro (fun _ => ?_) (fun c => absurd rfl c)
            rw [cN]
            refine st140 (x_up f 33 S.2.1 (y_tr (nI w))) S.2.2.2.1 S.2.2.2.2 _ ⟨x_fR_up (Or.inr (Or.inr (by decide))), ?_, ?_, ?_, fun i hi => ?_, hC0, x_up_s _ _ _ _⟩ (x_RC_up (by decide) hS.1) (fun k _ h => h) (fun h => absurd h nb) hYg
            · rw [x_up_k (by decide)]; exact e1
            · rw [x_up_k (by decide)]; exact e2
            · rw [x_up_k (by decide)]; exact e4
            · rw [x_up_k (by decide)]; exact hS.2.2.2.2.1 i hi
          | true =>
            have yb := hb18.mp hbb
            have d3 : S.2.2.2.1 < 3 := by
              have : S.2.2.2.1 ≠ 3 := fun e => hb3 ⟨hbb, e⟩
              omega
            rw [if_pos (e18.mpr yb), if_pos (e18.mpr yb)] at hYg
            refine And.intro (fun c => absurd (show (1 : Int32) = 0 from c) (by decide)) (fun _ => ?_)
            refine And.intro (by show x_ix (f 610 4) 3; rw [e4]; exact x_ix_nI (by omega) (by omega)) ?_
            have c4 : (f 610 4).toNatClampNeg = S.2.2.2.1 := by rw [e4]; exact nI_clamp (by omega)
            obtain ⟨F2, hF2⟩ : ∃ F2, F2 = x_up (x_up (x_up f 33 S.2.1 (y_tr (nI w))) 611 S.2.2.2.1 (nI S.2.1)) 610 4 (nI (S.2.2.2.1 + 1)) := ⟨_, rfl⟩
            have hF2' : F2 = x_up (x_up (x_up f 33 (nI S.2.1).toNatClampNeg (y_tr (nI w))) 611 (f 610 4).toNatClampNeg (nI S.2.1)) 610 4 (f 610 4 + Int32.ofInt 1) := by rw [hF2, cN, c4, e4, nI_1o]
            show x_J 62 (d + 4) Po 140 [some (.ref 610), some (.int (y_tr (nI w))), some (.int 1), some (.int (nI S.2.1)), none] [] (x_up (x_up (x_up f 33 (nI S.2.1).toNatClampNeg (y_tr (nI w))) 611 (f 610 4).toNatClampNeg (nI S.2.1)) 610 4 (f 610 4 + Int32.ofInt 1), g, x_HR 12 39, dm, n) 0 0
            rw [← hF2']
            have o2 : ∀ c, c ≠ 610 → c ≠ 611 → F2 c = x_up f 33 S.2.1 (y_tr (nI w)) c := fun c c1 c2 => by rw [hF2, x_up_k c1, x_up_k c2]
            refine st140 F2 (S.2.2.2.1 + 1) (va_up S.2.2.2.2 S.2.2.2.1 S.2.1) _ ⟨?_, ?_, ?_, ?_, fun i hi => ?_, fun c c1 c2 k hk => ?_, ?_⟩ ?_ (fun k hk h i hi => ?_) (fun _ => ⟨S.2.2.2.1, by omega, x_us⟩) hYg
            · rw [hF2]
              exact x_fR_t (x_fR_up (Or.inr (Or.inr (by decide)))) (x_fR_t (x_fR_up (Or.inr (Or.inl rfl))) (x_fR_up (Or.inl rfl)))
            · rw [o2 _ (by decide) (by decide), x_up_k (by decide)]; exact e1
            · rw [o2 _ (by decide) (by decide), x_up_k (by decide)]; exact e2
            · rw [hF2, x_up_s]
            · rw [hF2, x_up_k (by decide)]
              by_cases ei : i = S.2.2.2.1
              · rw [ei, x_up_s, x_us]
              · rw [x_up_j ei, x_up_k (by decide), x_un ei]
                exact hS.2.2.2.2.1 i (by omega)
            · rw [o2 c (by omega) (by omega)]
              exact hC0 c c1 c2 k hk
            · rw [o2 _ (by decide) (by decide)]
              exact x_up_s _ _ _ _
            · rw [hF2]
              exact x_RC_up (by decide) (x_RC_up (by decide) (x_RC_up (by decide) hS.1))
            · have hi : i < S.2.2.2.1 := hi
              have := h i (by omega)
              rw [x_un (by omega)] at this
              exact this
        have st76 : ∀ b : Bool, (b = true ↔ (w = 18 ∨ w = 19)) → x_J 62 (d + 4) Po 76 [some (.ref 610), some (.int (y_tr (nI w))), some (.int (x_bo b)), none, none] [] (f, g, x_HR 12 39, dm, n) 0 0 := by
          intro b hb18
          refine x_wp_ok ok62 [98] 6 ?_
          cases hbb : b with
          | false =>
            refine And.intro (fun _ => ?_) (fun c => absurd rfl c)
            rw [hbb] at hb18
            exact st98 false hb18 (fun h => by cases h.1)
          | true =>
            rw [hbb] at hb18
            refine And.intro (fun c => absurd (show (1 : Int32) = 0 from c) (by decide)) (fun _ => ?_)
            by_cases h3 : S.2.2.2.1 = 3
            · have hY : Y = .inl (y_fl a m q 7) := by
                rw [hYd]
                unfold y_rst
                rw [if_neg hw20, if_neg (by rw [l1, l2]; omega), if_neg h30, if_pos ⟨e18.mpr (hb18.mp rfl), h3⟩]
              refine And.intro (fun c => absurd (show f 610 4 < nI 3 from c) (by rw [e4, h3]; decide)) (fun _ => ?_)
              refine Exists.intro _ (And.intro (c_fail (k := 7) hS.1) (And.intro (And.intro (Nat.zero_le _) (Nat.zero_le _)) (fun zq h' hpo => ?_)))
              obtain ⟨rfl, F1, rfl, u1, u2⟩ := hpo
              refine And.intro ?_ ⟨Or.inl rfl, Nat.le_refl _, Nat.le_refl _⟩
              exact fl 7 hY F1 u1 u2
            · refine And.intro (fun _ => ?_) (fun c => absurd (show f 610 4 < nI 3 by rw [e4]; exact nI_lt (by omega) (by decide)) c)
              exact st98 true hb18 (fun h => h3 h.2)
        refine x_wp_ok ok62 [48, 58] 6 ?_
        refine And.intro (fun c => absurd (show nI 30 ≤ f 32 1 from c) (by rw [e1]; exact nI_ge (by omega) (by decide))) (fun _ => ?_)
        refine And.intro (fun _ => ?_) (fun c => absurd (show f 32 2 < nI 60 by rw [e2]; exact nI_lt hNL (by decide)) c)
        refine x_wp_ok ok62 [76] 6 ?_
        obtain ⟨t18, t22⟩ := y_tr_18 hw25
        refine And.intro (fun c => ?_) (fun c => ?_)
        · exact st76 true ⟨fun _ => Or.inl (t18.mp c), fun _ => rfl⟩
        · have c : ¬ y_tr (nI w) = 18 := c
          refine And.intro (fun c2 => ?_) (fun c2 => ?_)
          · have c2 : ¬ y_tr (nI w) = 22 := c2
            exact st76 false ⟨fun h => absurd h (by decide), fun h => absurd h (fun h => h.elim (fun h => c (t18.mpr h)) (fun h => c2 (t22.mpr h)))⟩
          · exact st76 true ⟨fun _ => Or.inr (t22.mp c2), fun _ => rfl⟩
    · have hY : Y = .inl (y_fl a m q 2) := by
        rw [hYd]
        unfold y_rst
        rw [if_neg hw20, if_pos (by rw [l1, l2]; omega)]
      rw [decide_eq_false hb]
      refine And.intro (fun c => absurd rfl c) (fun _ => ?_)
      refine Exists.intro _ (And.intro (c_fail (k := 2) hS.1) (And.intro (And.intro (Nat.zero_le _) (Nat.zero_le _)) (fun zq h' hpo => ?_)))
      obtain ⟨rfl, F1, rfl, u1, u2⟩ := hpo
      refine And.intro ?_ ⟨Or.inl rfl, Nat.le_refl _, Nat.le_refl _⟩
      exact fl 2 hY F1 u1 u2
theorem c_stepOrd_22_32 {dp' : Nat} {op' : Nat → Nat} {x2 : Int32} {Po : Option Value → xH → Prop} (hw1 : 11 ≤ w) (hw2 : w ≤ 21) (hw3 : w ≠ 20) (hT : y_TP a m) (hq : q ≤ m) (hNL : S.2.1 < 60) (hPo : Po = x_PR 39 a m f g (x_HR 22 32) dm n Y) (hS : x_RS 39 a m S r f g) (hW : x_W4 39 S f g dp' op' (y_tr (nI w)) (S.2.2.1 + 1) (S.2.1 + 1) F G) (hR : x_RC a m q F G) (h0 : f 22 0 = nI (v 0 0 0)) (h1 : f 22 1 = nI (v 1 0 0)) (h2 : f 22 2 = nI (v 2 0 0)) (b0 : v 0 0 0 ≤ 4) (b1 : v 1 0 0 ≤ 5) (b2 : v 2 0 0 ≤ 5) (hN : y_NR (g 24) v N) (hcl : ∀ k, k < S.2.1 → (∀ i, i < dp' → op' i ≠ k) → y_cl S k) (hcn : (w = 18 ∨ w = 19) → ∃ i, i < dp' ∧ op' i = S.2.1) (hY : Y = y_bd (y_ordr a m N (v 2 0 0) (v 0 0 0) (v 1 0 0) w q) (fun z => y_bd (y_sgn a m 59 z.2) (fun q2 => .inr ((y_lne S.1 S.2.1 z.1, S.2.1 + 1, S.2.2.1 + 1, dp', op'), q2)))) : x_J 62 (d + 4) Po 173 [some (.ref 610), some (.int (y_tr (nI w))), some (.int x2), some (.int (nI S.2.1)), none] [] (F, G, x_HR 22 32, dm, n) 0 0 := by
  have hTT : (39 : Nat) = 32 ∨ (39 : Nat) = 39 := by decide
  have g0 : F 22 0 = nI (v 0 0 0) := by rw [hW.1.1 22 (by decide) (by decide) (by decide) (by decide)]; exact h0
  have g1 : F 22 1 = nI (v 1 0 0) := by rw [hW.1.1 22 (by decide) (by decide) (by decide) (by decide)]; exact h1
  have g2 : F 22 2 = nI (v 2 0 0) := by rw [hW.1.1 22 (by decide) (by decide) (by decide) (by decide)]; exact h2
  have gN : y_NR (G 24) v N := by rw [hW.1.2 24 (by decide)]; exact hN
  have fin : ∀ (z : xN5 × Nat) F5 G5 cw, y_ordr a m N (v 2 0 0) (v 0 0 0) (v 1 0 0) w q = .inr z → x_fk 39 S.2.1 F G F5 G5 → x_RC a m z.2 F5 G5 → x_od 39 S.2.1 z.1 F5 → y_tr (nI w) = nI (y_wd z.1.1) → (17 < z.1.1 → z.1.1 ≠ 24 → w = 18 ∨ w = 19) → z.1.1 ≠ 23 → x_J 62 (d + 4) Po 254 [some (.ref 610), some (.int cw), some (.int x2), some (.int (nI S.2.1)), some (.int 1)] [] (F5, G5, x_HR 22 32, dm, n) 0 0 := by
    intro z F5 G5 cw hX hk hR5 hod hD hop hn
    obtain ⟨w1, w2, w3, w4, w5, w6, w7⟩ := x_W4_k hTT hW hk
    exact c_stepFin_22_32 hT hNL hPo hS w1 w2 w3 w4 w5 w6 (w7.trans hD) hR5 hod hn hcl (fun h17 h24 => hcn (hop h17 h24)) (by rw [hY, hX]; rfl)
  have bad : ∀ (e : Nat × Nat) F5 G5 cw, y_ordr a m N (v 2 0 0) (v 0 0 0) (v 1 0 0) w q = .inl e → x_fk 39 S.2.1 F G F5 G5 → x_FL F5 e → x_J 62 (d + 4) Po 254 [some (.ref 610), some (.int cw), some (.int x2), some (.int (nI S.2.1)), some (.int 0)] [] (F5, G5, x_HR 22 32, dm, n) 0 0 := by
    intro e F5 G5 cw hX hk he
    exact c_stepNo_22_32 hNL hPo (x_fR_t hW.1 (x_fR_k hk)) he (by rw [hY, hX]; rfl)
  have hww : w = 11 ∨ w = 12 ∨ w = 13 ∨ w = 14 ∨ w = 15 ∨ w = 16 ∨ w = 17 ∨ w = 18 ∨ w = 19 ∨ w = 21 := by omega
  rcases hww with rfl | rfl | rfl | rfl | rfl | rfl | rfl | rfl | rfl | rfl
  · refine x_wp_ok ok62 [254] 6 ?_
    refine And.intro (fun _ => ?_) (fun c => absurd c (by decide))
    refine And.intro (fun _ => ?_) (fun c => absurd c (by decide))
    refine And.intro (fun _ => ?_) (fun c => absurd c (by decide))
    refine And.intro (fun c => absurd c (by decide)) (fun _ => ?_)
    refine And.intro (fun c => absurd c (by decide)) (fun _ => ?_)
    refine Exists.intro _ (And.intro (c_readDeedK_22_32 (w := 11) (N := N) (v := v) (Or.inl rfl) hT hq hNL hR g0 g2 b0 b2 gN) (And.intro (And.intro (Nat.zero_le _) (Nat.zero_le _)) (fun zq h' hpo => ?_)))
    cases e1 : y_deed a m N (v 2 0 0) (v 0 0 0) 0 11 q with
    | inl e =>
      rw [e1] at hpo
      obtain ⟨rfl, F5, G5, rfl, u1, u2⟩ := hpo
      exact bad e F5 G5 _ ((y_ordr_K (Or.inl rfl)).trans e1) u1 u2
    | inr z =>
      rw [e1] at hpo
      obtain ⟨rfl, F5, G5, rfl, u1, u2, u3⟩ := hpo
      have ez : z.1.1 = 11 := by
        unfold y_deed at e1
        obtain ⟨p1, -, e1⟩ := y_bd_inr e1
        obtain ⟨p2, -, e1⟩ := y_bd_inr e1
        obtain ⟨p3, -, e1⟩ := y_bd_inr e1
        cases e1
        rfl
      exact fin z F5 G5 _ ((y_ordr_K (Or.inl rfl)).trans e1) u1 u2 u3 (by rw [ez]; decide) (fun h => by rw [ez] at h; exact absurd h (by decide)) (by rw [ez]; decide)
  · refine x_wp_ok ok62 [254] 6 ?_
    refine And.intro (fun _ => ?_) (fun c => absurd c (by decide))
    refine And.intro (fun _ => ?_) (fun c => absurd c (by decide))
    refine And.intro (fun _ => ?_) (fun c => absurd c (by decide))
    refine And.intro (fun c => absurd c (by decide)) (fun _ => ?_)
    refine And.intro (fun c => absurd c (by decide)) (fun _ => ?_)
    refine Exists.intro _ (And.intro (c_readDeedG_22_32 (w := 12) (N := N) (v := v) (Or.inl rfl) hT hq hNL hR g1 g2 b1 b2 gN) (And.intro (And.intro (Nat.zero_le _) (Nat.zero_le _)) (fun zq h' hpo => ?_)))
    cases e1 : y_deed a m N (v 2 0 0) (v 1 0 0) 4 12 q with
    | inl e =>
      rw [e1] at hpo
      obtain ⟨rfl, F5, G5, rfl, u1, u2⟩ := hpo
      exact bad e F5 G5 _ ((y_ordr_G (Or.inl rfl)).trans e1) u1 u2
    | inr z =>
      rw [e1] at hpo
      obtain ⟨rfl, F5, G5, rfl, u1, u2, u3⟩ := hpo
      have ez : z.1.1 = 12 := by
        unfold y_deed at e1
        obtain ⟨p1, -, e1⟩ := y_bd_inr e1
        obtain ⟨p2, -, e1⟩ := y_bd_inr e1
        obtain ⟨p3, -, e1⟩ := y_bd_inr e1
        cases e1
        rfl
      exact fin z F5 G5 _ ((y_ordr_G (Or.inl rfl)).trans e1) u1 u2 u3 (by rw [ez]; decide) (fun h => by rw [ez] at h; exact absurd h (by decide)) (by rw [ez]; decide)
  · refine x_wp_ok ok62 [254] 6 ?_
    refine And.intro (fun _ => ?_) (fun c => absurd c (by decide))
    refine And.intro (fun _ => ?_) (fun c => absurd c (by decide))
    refine And.intro (fun _ => ?_) (fun c => absurd c (by decide))
    refine And.intro (fun c => absurd c (by decide)) (fun _ => ?_)
    refine And.intro (fun c => absurd c (by decide)) (fun _ => ?_)
    refine Exists.intro _ (And.intro (c_readDeedG_22_32 (w := 13) (N := N) (v := v) (Or.inr rfl) hT hq hNL hR g1 g2 b1 b2 gN) (And.intro (And.intro (Nat.zero_le _) (Nat.zero_le _)) (fun zq h' hpo => ?_)))
    cases e1 : y_deed a m N (v 2 0 0) (v 1 0 0) 4 13 q with
    | inl e =>
      rw [e1] at hpo
      obtain ⟨rfl, F5, G5, rfl, u1, u2⟩ := hpo
      exact bad e F5 G5 _ ((y_ordr_G (Or.inr rfl)).trans e1) u1 u2
    | inr z =>
      rw [e1] at hpo
      obtain ⟨rfl, F5, G5, rfl, u1, u2, u3⟩ := hpo
      have ez : z.1.1 = 13 := by
        unfold y_deed at e1
        obtain ⟨p1, -, e1⟩ := y_bd_inr e1
        obtain ⟨p2, -, e1⟩ := y_bd_inr e1
        obtain ⟨p3, -, e1⟩ := y_bd_inr e1
        cases e1
        rfl
      exact fin z F5 G5 _ ((y_ordr_G (Or.inr rfl)).trans e1) u1 u2 u3 (by rw [ez]; decide) (fun h => by rw [ez] at h; exact absurd h (by decide)) (by rw [ez]; decide)
  · refine x_wp_ok ok62 [254] 6 ?_
    refine And.intro (fun _ => ?_) (fun c => absurd c (by decide))
    refine And.intro (fun _ => ?_) (fun c => absurd c (by decide))
    refine And.intro (fun _ => ?_) (fun c => absurd c (by decide))
    refine And.intro (fun c => absurd c (by decide)) (fun _ => ?_)
    refine And.intro (fun c => absurd c (by decide)) (fun _ => ?_)
    refine Exists.intro _ (And.intro (c_readDeedK_22_32 (w := 14) (N := N) (v := v) (Or.inr (Or.inl rfl)) hT hq hNL hR g0 g2 b0 b2 gN) (And.intro (And.intro (Nat.zero_le _) (Nat.zero_le _)) (fun zq h' hpo => ?_)))
    cases e1 : y_deed a m N (v 2 0 0) (v 0 0 0) 0 14 q with
    | inl e =>
      rw [e1] at hpo
      obtain ⟨rfl, F5, G5, rfl, u1, u2⟩ := hpo
      exact bad e F5 G5 _ ((y_ordr_K (Or.inr (Or.inl rfl))).trans e1) u1 u2
    | inr z =>
      rw [e1] at hpo
      obtain ⟨rfl, F5, G5, rfl, u1, u2, u3⟩ := hpo
      have ez : z.1.1 = 14 := by
        unfold y_deed at e1
        obtain ⟨p1, -, e1⟩ := y_bd_inr e1
        obtain ⟨p2, -, e1⟩ := y_bd_inr e1
        obtain ⟨p3, -, e1⟩ := y_bd_inr e1
        cases e1
        rfl
      exact fin z F5 G5 _ ((y_ordr_K (Or.inr (Or.inl rfl))).trans e1) u1 u2 u3 (by rw [ez]; decide) (fun h => by rw [ez] at h; exact absurd h (by decide)) (by rw [ez]; decide)
  · refine x_wp_ok ok62 [254] 6 ?_
    refine And.intro (fun _ => ?_) (fun c => absurd c (by decide))
    refine And.intro (fun _ => ?_) (fun c => absurd c (by decide))
    refine And.intro (fun _ => ?_) (fun c => absurd c (by decide))
    refine And.intro (fun c => absurd c (by decide)) (fun _ => ?_)
    refine And.intro (fun c => absurd c (by decide)) (fun _ => ?_)
    refine Exists.intro _ (And.intro (c_readDeedK_22_32 (w := 15) (N := N) (v := v) (Or.inr (Or.inr rfl)) hT hq hNL hR g0 g2 b0 b2 gN) (And.intro (And.intro (Nat.zero_le _) (Nat.zero_le _)) (fun zq h' hpo => ?_)))
    cases e1 : y_deed a m N (v 2 0 0) (v 0 0 0) 0 15 q with
    | inl e =>
      rw [e1] at hpo
      obtain ⟨rfl, F5, G5, rfl, u1, u2⟩ := hpo
      exact bad e F5 G5 _ ((y_ordr_K (Or.inr (Or.inr rfl))).trans e1) u1 u2
    | inr z =>
      rw [e1] at hpo
      obtain ⟨rfl, F5, G5, rfl, u1, u2, u3⟩ := hpo
      have ez : z.1.1 = 15 := by
        unfold y_deed at e1
        obtain ⟨p1, -, e1⟩ := y_bd_inr e1
        obtain ⟨p2, -, e1⟩ := y_bd_inr e1
        obtain ⟨p3, -, e1⟩ := y_bd_inr e1
        cases e1
        rfl
      exact fin z F5 G5 _ ((y_ordr_K (Or.inr (Or.inr rfl))).trans e1) u1 u2 u3 (by rw [ez]; decide) (fun h => by rw [ez] at h; exact absurd h (by decide)) (by rw [ez]; decide)
  · refine x_wp_ok ok62 [254] 6 ?_
    refine And.intro (fun c => absurd rfl c) (fun _ => ?_)
    refine Exists.intro _ (And.intro (c_takeNumber (lo := 1) (hi := 20) (by decide) (by decide) hT hR) (And.intro (And.intro (Nat.zero_le _) (Nat.zero_le _)) (fun zq h' hpo => ?_)))
    cases e1 : y_nbr a m 1 20 q with
    | inl e =>
      obtain ⟨rfl, F5, G5, rfl, u1, u2⟩ := x_PT_l e1 hpo
      refine bad e F5 G5 _ (y_ordr_16.trans ?_) (x_fk_10 (by decide) u1) u2
      unfold y_numb
      rw [e1]
      rfl
    | inr x =>
      obtain ⟨rfl, F5, G5, rfl, u1, u2, u3⟩ := x_PT_r e1 hpo
      refine fin ((16, 0, 0, x.1, 0), x.2) F5 G5 _ (y_ordr_16.trans ?_) (x_fk_10 (by decide) u1) u2 ⟨fun h => absurd (show (16 : Nat) ≤ 15 from h) (by decide), fun h => absurd (show 18 ≤ (16 : Nat) ∧ (16 : Nat) ≤ 20 from h) (by decide), fun _ _ => u3⟩ (show y_tr (nI 16) = nI (y_wd 16) by decide) (fun h _ => absurd (show 17 < (16 : Nat) from h) (by decide)) (show (16 : Nat) ≠ 23 by decide)
      unfold y_numb
      rw [e1]
      rfl
  · refine x_wp_ok ok62 [254] 6 ?_
    refine And.intro (fun _ => ?_) (fun c => absurd c (by decide))
    refine And.intro (fun _ => ?_) (fun c => absurd c (by decide))
    refine And.intro (fun _ => ?_) (fun c => absurd c (by decide))
    refine And.intro (fun _ => ?_) (fun c => absurd rfl c)
    exact fin ((17, 0, 0, 0, 0), q) F G _ y_ordr_17 x_fk_r hR ⟨fun h => absurd (show (17 : Nat) ≤ 15 from h) (by decide), fun h => absurd (show 18 ≤ (17 : Nat) ∧ (17 : Nat) ≤ 20 from h) (by decide), fun h => absurd rfl h⟩ (show y_tr (nI 17) = nI (y_wd 17) by decide) (fun h => absurd (show 17 < (17 : Nat) from h) (by decide)) (show (17 : Nat) ≠ 23 by decide)
  · refine x_wp_ok ok62 [254] 6 ?_
    refine And.intro (fun _ => ?_) (fun c => absurd c (by decide))
    refine And.intro (fun _ => ?_) (fun c => absurd c (by decide))
    refine And.intro (fun c => absurd rfl c) (fun _ => ?_)
    refine Exists.intro _ (And.intro (c_readTest_22_32 (N := N) (v := v) hT hq hNL hR g1 g2 b1 b2 gN) (And.intro (And.intro (Nat.zero_le _) (Nat.zero_le _)) (fun zq h' hpo => ?_)))
    cases e1 : y_tst a m N (v 2 0 0) (v 1 0 0) q with
    | inl e =>
      rw [e1] at hpo
      obtain ⟨rfl, F5, G5, rfl, u1, u2⟩ := hpo
      exact bad e F5 G5 _ (y_ordr_18.trans e1) u1 u2
    | inr z =>
      rw [e1] at hpo
      obtain ⟨rfl, F5, G5, rfl, u1, u2, u3⟩ := hpo
      have ez := y_tst_o e1
      exact fin z F5 G5 _ (y_ordr_18.trans e1) u1 u2 u3 (by rw [y_wd_18 ez]; decide) (fun _ _ => Or.inl rfl) (by omega)
  · refine x_wp_ok ok62 [254] 6 ?_
    refine And.intro (fun _ => ?_) (fun c => absurd c (by decide))
    refine And.intro (fun c => absurd rfl c) (fun _ => ?_)
    refine Exists.intro _ (And.intro (c_takeNumber (lo := 1) (hi := 99) (by decide) (by decide) hT hR) (And.intro (And.intro (Nat.zero_le _) (Nat.zero_le _)) (fun zq h' hpo => ?_)))
    cases e1 : y_nbr a m 1 99 q with
    | inl e =>
      obtain ⟨rfl, F5, G5, rfl, u1, u2⟩ := x_PT_l e1 hpo
      refine bad e F5 G5 _ (y_ordr_19.trans ?_) (x_fk_10 (by decide) u1) u2
      unfold y_numb
      rw [e1]
      rfl
    | inr x =>
      obtain ⟨rfl, F5, G5, rfl, u1, u2, u3⟩ := x_PT_r e1 hpo
      refine fin ((22, 0, 0, x.1, 0), x.2) F5 G5 _ (y_ordr_19.trans ?_) (x_fk_10 (by decide) u1) u2 ⟨fun h => absurd (show (22 : Nat) ≤ 15 from h) (by decide), fun h => absurd (show 18 ≤ (22 : Nat) ∧ (22 : Nat) ≤ 20 from h) (by decide), fun _ _ => u3⟩ (show y_tr (nI 19) = nI (y_wd 22) by decide) (fun h _ => Or.inr rfl) (show (22 : Nat) ≠ 23 by decide)
      unfold y_numb
      rw [e1]
      rfl
  · refine x_wp_ok ok62 [254] 6 ?_
    refine And.intro (fun _ => ?_) (fun c => absurd c (by decide))
    refine And.intro (fun _ => ?_) (fun c => absurd c (by decide))
    refine And.intro (fun _ => ?_) (fun c => absurd c (by decide))
    refine And.intro (fun c => absurd c (by decide)) (fun _ => ?_)
    refine And.intro (fun _ => ?_) (fun c => absurd rfl c)
    exact fin ((24, 0, 0, 0, 0), q) F G _ y_ordr_21 x_fk_r hR ⟨fun h => absurd (show (24 : Nat) ≤ 15 from h) (by decide), fun h => absurd (show 18 ≤ (24 : Nat) ∧ (24 : Nat) ≤ 20 from h) (by decide), fun _ h => absurd rfl h⟩ (show y_tr (nI 21) = nI (y_wd 24) by decide) (fun _ h => absurd rfl h) (show (24 : Nat) ≠ 23 by decide)
theorem c_readStep_22_32 (hT : y_TP a m) (hI : y_RI (v 2 0 0) (v 0 0 0) (v 1 0 0) S) (hS : x_RS 39 a m S q f g) (h0 : f 22 0 = nI (v 0 0 0)) (h1 : f 22 1 = nI (v 1 0 0)) (h2 : f 22 2 = nI (v 2 0 0)) (b0 : v 0 0 0 ≤ 4) (b1 : v 1 0 0 ≤ 5) (b2 : v 2 0 0 ≤ 5) (hN : y_NR (g 24) v N) (hw20 : y_wm a m q ≠ 20) : x_Ct 62 (d + 4) [.ref 610] (f, g, x_HR 22 32, dm, n) (x_PR 39 a m f g (x_HR 22 32) dm n (y_rst a m N (v 2 0 0) (v 0 0 0) (v 1 0 0) S q)) := by
  obtain ⟨Y, hYd⟩ : ∃ Y, Y = y_rst a m N (v 2 0 0) (v 0 0 0) (v 1 0 0) S q := ⟨_, rfl⟩
  rw [← hYd]
  obtain ⟨Po, hPo⟩ : ∃ Po : Option Value → xH → Prop, Po = x_PR 39 a m f g (x_HR 22 32) dm n Y := ⟨_, rfl⟩
  rw [← hPo]
  have hst := hI.2.1
  have hdp := hI.2.2.1
  have hnl := hI.1
  have e1 : f 39 1 = nI S.2.2.1 := hS.2.1
  have e2 : f 39 2 = nI S.2.1 := hS.2.2.1
  have e4 : f 610 4 = nI S.2.2.2.1 := hS.2.2.2.1
  have fl : ∀ k, Y = .inl (y_fl a m q k) → ∀ F, x_f10 f g F g → x_FL F (y_fl a m q k) → Po (some (.int 0)) (F, g, x_HR 22 32, dm, n) := by
    intro k hY F u1 u2
    rw [hPo, hY]
    exact ⟨rfl, F, g, rfl, x_fR_10 u1, u2⟩
  refine x_Ct_w (by decide) (Nat.le_of_ble_eq_true rfl) ok62 [8] 6 ?_
  show x_J 62 (d + 4) Po 8 [some (.ref 610), some (.int (f 10 7)), none, none, none] [] (f, g, x_HR 22 32, dm, n) 0 0
  rw [hS.1.2.2.2.2.1]
  rcases y_wm_rg a m q with hw | ⟨w, hw25, hw⟩
  · have hY : Y = .inl (y_fl a m q 2) := by
      rw [hYd]
      unfold y_rst
      rw [if_neg hw20, if_pos (Or.inl (by rw [hw]; decide))]
    rw [hw]
    refine x_wp_ok ok62 [24] 6 ?_
    refine Exists.intro _ (And.intro c_isStepWord_no (And.intro (And.intro (Nat.zero_le _) (Nat.zero_le _)) (fun q h' hpo => ?_)))
    obtain ⟨rfl, rfl⟩ := hpo
    refine And.intro (fun c => absurd rfl c) (fun _ => ?_)
    refine Exists.intro _ (And.intro (c_fail (k := 2) hS.1) (And.intro (And.intro (Nat.zero_le _) (Nat.zero_le _)) (fun zq h' hpo => ?_)))
    obtain ⟨rfl, F1, rfl, u1, u2⟩ := hpo
    refine And.intro ?_ ⟨Or.inl rfl, Nat.le_refl _, Nat.le_refl _⟩
    exact fl 2 hY F1 u1 u2
  · have l1 : y_wm a m q < 11 ↔ w < 11 := by rw [hw]; exact nI_ltI (b := 11) (by omega) (by decide)
    have l2 : 21 < y_wm a m q ↔ 21 < w := by rw [hw]; exact nI_ltI (a := 21) (by decide) (by omega)
    have n20 : w ≠ 20 := fun e => hw20 (by rw [hw, e]; rfl)
    have e18 : (y_wm a m q = 18 ∨ y_wm a m q = 19) ↔ (w = 18 ∨ w = 19) := by
      rw [hw, show (18 : Int32) = nI 18 from rfl, show (19 : Int32) = nI 19 from rfl, nI_eq (by omega) (by decide), nI_eq (by omega) (by decide)]
    have ew : (y_wm a m q).toNatClampNeg = w := by rw [hw]; exact nI_clamp (by omega)
    have no : ∀ j, j < 25 → nI j ≠ -1 := by decide +kernel
    have hs : y_sa a m q = 1 := y_wm_sa (by rw [hw]; exact no w hw25)
    have hn := y_nxt_gt (a := a) (m := m) (q := q) (by rw [hs]; decide)
    rw [hw]
    refine x_wp_ok ok62 [24] 6 ?_
    refine Exists.intro _ (And.intro (c_isStepWord hw25) (And.intro (And.intro (Nat.zero_le _) (Nat.zero_le _)) (fun q h' hpo => ?_)))
    obtain ⟨rfl, rfl⟩ := hpo
    by_cases hb : 11 ≤ w ∧ w ≤ 21 ∧ w ≠ 20
    · rw [decide_eq_true hb]
      refine And.intro (fun _ => ?_) (fun c => absurd (show (1 : Int32) = 0 from c) (by decide))
      by_cases h30 : S.2.2.1 = 30
      · have hY : Y = .inl (y_fl a m q 6) := by
          rw [hYd]
          unfold y_rst
          rw [if_neg hw20, if_neg (by rw [l1, l2]; omega), if_pos h30]
        refine x_wp_ok ok62 [48, 58] 6 ?_
        refine And.intro (fun _ => ?_) (fun c => absurd (show nI 30 ≤ f 39 1 by rw [e1, h30]; decide) c)
        refine x_wp_ok ok62 [] 6 ?_
        refine Exists.intro _ (And.intro (c_fail (k := 6) hS.1) (And.intro (And.intro (Nat.zero_le _) (Nat.zero_le _)) (fun zq h' hpo => ?_)))
        obtain ⟨rfl, F1, rfl, u1, u2⟩ := hpo
        refine And.intro ?_ ⟨Or.inl rfl, Nat.le_refl _, Nat.le_refl _⟩
        exact fl 6 hY F1 u1 u2
      · have hNL : S.2.1 < 60 := by omega
        -- from the line on
        have st140 : ∀ F2 (dp' : Nat) (op' : Nat → Nat) (x2 : Int32), x_W4 39 S f g dp' op' (y_tr (nI w)) S.2.2.1 S.2.1 F2 g → x_RC a m q F2 g → (∀ k, k < S.2.1 → (∀ i, i < dp' → op' i ≠ k) → y_cl S k) → ((w = 18 ∨ w = 19) → ∃ i, i < dp' ∧ op' i = S.2.1) → Y = y_bd (y_ordr a m N (v 2 0 0) (v 0 0 0) (v 1 0 0) w (y_nxt a m q)) (fun z => y_bd (y_sgn a m 59 z.2) (fun q2 => .inr ((y_lne S.1 S.2.1 z.1, S.2.1 + 1, S.2.2.1 + 1, dp', op'), q2))) → x_J 62 (d + 4) Po 140 [some (.ref 610), some (.int (y_tr (nI w))), some (.int x2), some (.int (nI S.2.1)), none] [] (F2, g, x_HR 22 32, dm, n) 0 0 := by
          intro F2 dp' op' x2 hW hR2 hcl hcn hY
          obtain ⟨w1, w2, w3, w4, w5, w6, w7⟩ := hW
          obtain ⟨F3, hF3⟩ : ∃ F3, F3 = x_up (x_up F2 39 1 (nI (S.2.2.1 + 1))) 39 2 (nI (S.2.1 + 1)) := ⟨_, rfl⟩
          have hF3' : F3 = x_up (x_up F2 39 1 (F2 39 1 + Int32.ofInt 1)) 39 2 (x_up F2 39 1 (F2 39 1 + Int32.ofInt 1) 39 2 + Int32.ofInt 1) := by rw [x_up_j (by decide), w2, w3, nI_1o, nI_1o, hF3]
          have r3 : x_RC a m q F3 g := by
            rw [hF3]
            exact x_RC_up (by decide) (x_RC_up (by decide) hR2)
          have o3 : ∀ c, c ≠ 39 → F3 c = F2 c := fun c hc => by rw [hF3, x_up_k hc, x_up_k hc]
          have W3 : x_W4 39 S f g dp' op' (y_tr (nI w)) (S.2.2.1 + 1) (S.2.1 + 1) F3 g := by
            refine ⟨?_, ?_, ?_, ?_, fun i hi => ?_, fun c c1 c2 k hk => ?_, ?_⟩
            · rw [hF3]
              exact x_fR_t w1 (x_fR_t (x_fR_up (Or.inr (Or.inr (by decide)))) (x_fR_up (Or.inr (Or.inr (by decide)))))
            · rw [hF3, x_up_j (by decide), x_up_s]
            · rw [hF3, x_up_s]
            · rw [o3 610 (by decide)]; exact w4
            · rw [o3 611 (by decide)]; exact w5 i hi
            · rw [o3 c (by omega)]; exact w6 c c1 c2 k hk
            · rw [o3 _ (by decide)]; exact w7
          refine x_wp_ok ok62 [173] 6 ?_
          show ∃ P, x_Ct 82 (d + 3) [.ref 10] (x_up (x_up F2 39 1 (F2 39 1 + Int32.ofInt 1)) 39 2 (x_up F2 39 1 (F2 39 1 + Int32.ofInt 1) 39 2 + Int32.ofInt 1), g, x_HR 22 32, dm, n) P ∧ _
          rw [← hF3']
          refine Exists.intro _ (And.intro (c_adv hT r3 (by rw [hs]; decide) (by rw [hs]; decide)) (And.intro (And.intro (Nat.zero_le _) (Nat.zero_le _)) (fun zq h' hpo => ?_)))
          obtain ⟨rfl, F4, G4, rfl, u1, -, u3⟩ := hpo
          refine c_stepOrd_22_32 hb.1 hb.2.1 hb.2.2 hT hn.2 hNL hPo hS (x_W4_k (by decide) W3 (x_fk_10 (by decide) u1)) u3 h0 h1 h2 b0 b1 b2 hN hcl hcn hY
        have hC0 : ∀ c, 40 ≤ c → c ≤ 45 → ∀ k, k ≠ S.2.1 → x_up f 40 S.2.1 (y_tr (nI w)) c k = f c k := by
          intro c c1 c2 k hk
          by_cases e : c = 40
          · rw [e, x_up_j hk]
          · rw [x_up_k e]
        have st98 : ∀ b : Bool, (b = true ↔ (w = 18 ∨ w = 19)) → ¬ (b = true ∧ S.2.2.2.1 = 3) → x_J 62 (d + 4) Po 98 [some (.ref 610), some (.int (y_tr (nI w))), some (.int (x_bo b)), none, none] [] (f, g, x_HR 22 32, dm, n) 0 0 := by
          intro b hb18 hb3
          have cN : (nI S.2.1).toNatClampNeg = S.2.1 := nI_clamp (by omega)
          have hYg : Y = y_bd (y_ordr a m N (v 2 0 0) (v 0 0 0) (v 1 0 0) w (y_nxt a m q)) (fun z => y_bd (y_sgn a m 59 z.2) (fun q2 => .inr ((y_lne S.1 S.2.1 z.1, S.2.1 + 1, S.2.2.1 + 1, if y_wm a m q = 18 ∨ y_wm a m q = 19 then S.2.2.2.1 + 1 else S.2.2.2.1, if y_wm a m q = 18 ∨ y_wm a m q = 19 then va_up S.2.2.2.2 S.2.2.2.1 S.2.1 else S.2.2.2.2), q2))) := by
            rw [hYd]
            unfold y_rst
            rw [if_neg hw20, if_neg (by rw [l1, l2]; omega), if_neg h30, if_neg (fun h => hb3 ⟨hb18.mpr (e18.mp h.1), h.2⟩), ew]
          refine x_wp_ok ok62 [106] 6 ?_
          show x_J 62 (d + 4) Po 106 [some (.ref 610), some (.int (y_tr (nI w))), some (.int (x_bo b)), some (.int (f 39 2)), none] [] (f, g, x_HR 22 32, dm, n) 0 0
          rw [e2]
          refine x_wp_ok ok62 [140] 6 ?_
          refine And.intro (x_ix_nI (by omega) (by omega)) ?_
          cases hbb : b with
          | false =>
            have nb : ¬ (w = 18 ∨ w = 19) := fun h => by rw [hb18.mpr h] at hbb; cases hbb
            rw [if_neg (fun h => nb (e18.mp h)), if_neg (fun h => nb (e18.mp h))] at hYg
            refine And.intro (fun _ => ?_) (fun c => absurd rfl c)
            rw [cN]
            refine st140 (x_up f 40 S.2.1 (y_tr (nI w))) S.2.2.2.1 S.2.2.2.2 _ ⟨x_fR_up (Or.inr (Or.inr (by decide))), ?_, ?_, ?_, fun i hi => ?_, hC0, x_up_s _ _ _ _⟩ (x_RC_up (by decide) hS.1) (fun k _ h => h) (fun h => absurd h nb) hYg
            · rw [x_up_k (by decide)]; exact e1
            · rw [x_up_k (by decide)]; exact e2
            · rw [x_up_k (by decide)]; exact e4
            · rw [x_up_k (by decide)]; exact hS.2.2.2.2.1 i hi
          | true =>
            have yb := hb18.mp hbb
            have d3 : S.2.2.2.1 < 3 := by
              have : S.2.2.2.1 ≠ 3 := fun e => hb3 ⟨hbb, e⟩
              omega
            rw [if_pos (e18.mpr yb), if_pos (e18.mpr yb)] at hYg
            refine And.intro (fun c => absurd (show (1 : Int32) = 0 from c) (by decide)) (fun _ => ?_)
            refine And.intro (by show x_ix (f 610 4) 3; rw [e4]; exact x_ix_nI (by omega) (by omega)) ?_
            have c4 : (f 610 4).toNatClampNeg = S.2.2.2.1 := by rw [e4]; exact nI_clamp (by omega)
            obtain ⟨F2, hF2⟩ : ∃ F2, F2 = x_up (x_up (x_up f 40 S.2.1 (y_tr (nI w))) 611 S.2.2.2.1 (nI S.2.1)) 610 4 (nI (S.2.2.2.1 + 1)) := ⟨_, rfl⟩
            have hF2' : F2 = x_up (x_up (x_up f 40 (nI S.2.1).toNatClampNeg (y_tr (nI w))) 611 (f 610 4).toNatClampNeg (nI S.2.1)) 610 4 (f 610 4 + Int32.ofInt 1) := by rw [hF2, cN, c4, e4, nI_1o]
            show x_J 62 (d + 4) Po 140 [some (.ref 610), some (.int (y_tr (nI w))), some (.int 1), some (.int (nI S.2.1)), none] [] (x_up (x_up (x_up f 40 (nI S.2.1).toNatClampNeg (y_tr (nI w))) 611 (f 610 4).toNatClampNeg (nI S.2.1)) 610 4 (f 610 4 + Int32.ofInt 1), g, x_HR 22 32, dm, n) 0 0
            rw [← hF2']
            have o2 : ∀ c, c ≠ 610 → c ≠ 611 → F2 c = x_up f 40 S.2.1 (y_tr (nI w)) c := fun c c1 c2 => by rw [hF2, x_up_k c1, x_up_k c2]
            refine st140 F2 (S.2.2.2.1 + 1) (va_up S.2.2.2.2 S.2.2.2.1 S.2.1) _ ⟨?_, ?_, ?_, ?_, fun i hi => ?_, fun c c1 c2 k hk => ?_, ?_⟩ ?_ (fun k hk h i hi => ?_) (fun _ => ⟨S.2.2.2.1, by omega, x_us⟩) hYg
            · rw [hF2]
              exact x_fR_t (x_fR_up (Or.inr (Or.inr (by decide)))) (x_fR_t (x_fR_up (Or.inr (Or.inl rfl))) (x_fR_up (Or.inl rfl)))
            · rw [o2 _ (by decide) (by decide), x_up_k (by decide)]; exact e1
            · rw [o2 _ (by decide) (by decide), x_up_k (by decide)]; exact e2
            · rw [hF2, x_up_s]
            · rw [hF2, x_up_k (by decide)]
              by_cases ei : i = S.2.2.2.1
              · rw [ei, x_up_s, x_us]
              · rw [x_up_j ei, x_up_k (by decide), x_un ei]
                exact hS.2.2.2.2.1 i (by omega)
            · rw [o2 c (by omega) (by omega)]
              exact hC0 c c1 c2 k hk
            · rw [o2 _ (by decide) (by decide)]
              exact x_up_s _ _ _ _
            · rw [hF2]
              exact x_RC_up (by decide) (x_RC_up (by decide) (x_RC_up (by decide) hS.1))
            · have hi : i < S.2.2.2.1 := hi
              have := h i (by omega)
              rw [x_un (by omega)] at this
              exact this
        have st76 : ∀ b : Bool, (b = true ↔ (w = 18 ∨ w = 19)) → x_J 62 (d + 4) Po 76 [some (.ref 610), some (.int (y_tr (nI w))), some (.int (x_bo b)), none, none] [] (f, g, x_HR 22 32, dm, n) 0 0 := by
          intro b hb18
          refine x_wp_ok ok62 [98] 6 ?_
          cases hbb : b with
          | false =>
            refine And.intro (fun _ => ?_) (fun c => absurd rfl c)
            rw [hbb] at hb18
            exact st98 false hb18 (fun h => by cases h.1)
          | true =>
            rw [hbb] at hb18
            refine And.intro (fun c => absurd (show (1 : Int32) = 0 from c) (by decide)) (fun _ => ?_)
            by_cases h3 : S.2.2.2.1 = 3
            · have hY : Y = .inl (y_fl a m q 7) := by
                rw [hYd]
                unfold y_rst
                rw [if_neg hw20, if_neg (by rw [l1, l2]; omega), if_neg h30, if_pos ⟨e18.mpr (hb18.mp rfl), h3⟩]
              refine And.intro (fun c => absurd (show f 610 4 < nI 3 from c) (by rw [e4, h3]; decide)) (fun _ => ?_)
              refine Exists.intro _ (And.intro (c_fail (k := 7) hS.1) (And.intro (And.intro (Nat.zero_le _) (Nat.zero_le _)) (fun zq h' hpo => ?_)))
              obtain ⟨rfl, F1, rfl, u1, u2⟩ := hpo
              refine And.intro ?_ ⟨Or.inl rfl, Nat.le_refl _, Nat.le_refl _⟩
              exact fl 7 hY F1 u1 u2
            · refine And.intro (fun _ => ?_) (fun c => absurd (show f 610 4 < nI 3 by rw [e4]; exact nI_lt (by omega) (by decide)) c)
              exact st98 true hb18 (fun h => h3 h.2)
        refine x_wp_ok ok62 [48, 58] 6 ?_
        refine And.intro (fun c => absurd (show nI 30 ≤ f 39 1 from c) (by rw [e1]; exact nI_ge (by omega) (by decide))) (fun _ => ?_)
        refine And.intro (fun _ => ?_) (fun c => absurd (show f 39 2 < nI 60 by rw [e2]; exact nI_lt hNL (by decide)) c)
        refine x_wp_ok ok62 [76] 6 ?_
        obtain ⟨t18, t22⟩ := y_tr_18 hw25
        refine And.intro (fun c => ?_) (fun c => ?_)
        · exact st76 true ⟨fun _ => Or.inl (t18.mp c), fun _ => rfl⟩
        · have c : ¬ y_tr (nI w) = 18 := c
          refine And.intro (fun c2 => ?_) (fun c2 => ?_)
          · have c2 : ¬ y_tr (nI w) = 22 := c2
            exact st76 false ⟨fun h => absurd h (by decide), fun h => absurd h (fun h => h.elim (fun h => c (t18.mpr h)) (fun h => c2 (t22.mpr h)))⟩
          · exact st76 true ⟨fun _ => Or.inr (t22.mp c2), fun _ => rfl⟩
    · have hY : Y = .inl (y_fl a m q 2) := by
        rw [hYd]
        unfold y_rst
        rw [if_neg hw20, if_pos (by rw [l1, l2]; omega)]
      rw [decide_eq_false hb]
      refine And.intro (fun c => absurd rfl c) (fun _ => ?_)
      refine Exists.intro _ (And.intro (c_fail (k := 2) hS.1) (And.intro (And.intro (Nat.zero_le _) (Nat.zero_le _)) (fun zq h' hpo => ?_)))
      obtain ⟨rfl, F1, rfl, u1, u2⟩ := hpo
      refine And.intro ?_ ⟨Or.inl rfl, Nat.le_refl _, Nat.le_refl _⟩
      exact fl 2 hY F1 u1 u2
theorem c_stepOrd_22_39 {dp' : Nat} {op' : Nat → Nat} {x2 : Int32} {Po : Option Value → xH → Prop} (hw1 : 11 ≤ w) (hw2 : w ≤ 21) (hw3 : w ≠ 20) (hT : y_TP a m) (hq : q ≤ m) (hNL : S.2.1 < 60) (hPo : Po = x_PR 32 a m f g (x_HR 22 39) dm n Y) (hS : x_RS 32 a m S r f g) (hW : x_W4 32 S f g dp' op' (y_tr (nI w)) (S.2.2.1 + 1) (S.2.1 + 1) F G) (hR : x_RC a m q F G) (h0 : f 22 0 = nI (v 0 0 0)) (h1 : f 22 1 = nI (v 1 0 0)) (h2 : f 22 2 = nI (v 2 0 0)) (b0 : v 0 0 0 ≤ 4) (b1 : v 1 0 0 ≤ 5) (b2 : v 2 0 0 ≤ 5) (hN : y_NR (g 24) v N) (hcl : ∀ k, k < S.2.1 → (∀ i, i < dp' → op' i ≠ k) → y_cl S k) (hcn : (w = 18 ∨ w = 19) → ∃ i, i < dp' ∧ op' i = S.2.1) (hY : Y = y_bd (y_ordr a m N (v 2 0 0) (v 0 0 0) (v 1 0 0) w q) (fun z => y_bd (y_sgn a m 59 z.2) (fun q2 => .inr ((y_lne S.1 S.2.1 z.1, S.2.1 + 1, S.2.2.1 + 1, dp', op'), q2)))) : x_J 62 (d + 4) Po 173 [some (.ref 610), some (.int (y_tr (nI w))), some (.int x2), some (.int (nI S.2.1)), none] [] (F, G, x_HR 22 39, dm, n) 0 0 := by
  have hTT : (32 : Nat) = 32 ∨ (32 : Nat) = 39 := by decide
  have g0 : F 22 0 = nI (v 0 0 0) := by rw [hW.1.1 22 (by decide) (by decide) (by decide) (by decide)]; exact h0
  have g1 : F 22 1 = nI (v 1 0 0) := by rw [hW.1.1 22 (by decide) (by decide) (by decide) (by decide)]; exact h1
  have g2 : F 22 2 = nI (v 2 0 0) := by rw [hW.1.1 22 (by decide) (by decide) (by decide) (by decide)]; exact h2
  have gN : y_NR (G 24) v N := by rw [hW.1.2 24 (by decide)]; exact hN
  have fin : ∀ (z : xN5 × Nat) F5 G5 cw, y_ordr a m N (v 2 0 0) (v 0 0 0) (v 1 0 0) w q = .inr z → x_fk 32 S.2.1 F G F5 G5 → x_RC a m z.2 F5 G5 → x_od 32 S.2.1 z.1 F5 → y_tr (nI w) = nI (y_wd z.1.1) → (17 < z.1.1 → z.1.1 ≠ 24 → w = 18 ∨ w = 19) → z.1.1 ≠ 23 → x_J 62 (d + 4) Po 254 [some (.ref 610), some (.int cw), some (.int x2), some (.int (nI S.2.1)), some (.int 1)] [] (F5, G5, x_HR 22 39, dm, n) 0 0 := by
    intro z F5 G5 cw hX hk hR5 hod hD hop hn
    obtain ⟨w1, w2, w3, w4, w5, w6, w7⟩ := x_W4_k hTT hW hk
    exact c_stepFin_22_39 hT hNL hPo hS w1 w2 w3 w4 w5 w6 (w7.trans hD) hR5 hod hn hcl (fun h17 h24 => hcn (hop h17 h24)) (by rw [hY, hX]; rfl)
  have bad : ∀ (e : Nat × Nat) F5 G5 cw, y_ordr a m N (v 2 0 0) (v 0 0 0) (v 1 0 0) w q = .inl e → x_fk 32 S.2.1 F G F5 G5 → x_FL F5 e → x_J 62 (d + 4) Po 254 [some (.ref 610), some (.int cw), some (.int x2), some (.int (nI S.2.1)), some (.int 0)] [] (F5, G5, x_HR 22 39, dm, n) 0 0 := by
    intro e F5 G5 cw hX hk he
    exact c_stepNo_22_39 hNL hPo (x_fR_t hW.1 (x_fR_k hk)) he (by rw [hY, hX]; rfl)
  have hww : w = 11 ∨ w = 12 ∨ w = 13 ∨ w = 14 ∨ w = 15 ∨ w = 16 ∨ w = 17 ∨ w = 18 ∨ w = 19 ∨ w = 21 := by omega
  rcases hww with rfl | rfl | rfl | rfl | rfl | rfl | rfl | rfl | rfl | rfl
  · refine x_wp_ok ok62 [254] 6 ?_
    refine And.intro (fun _ => ?_) (fun c => absurd c (by decide))
    refine And.intro (fun _ => ?_) (fun c => absurd c (by decide))
    refine And.intro (fun _ => ?_) (fun c => absurd c (by decide))
    refine And.intro (fun c => absurd c (by decide)) (fun _ => ?_)
    refine And.intro (fun c => absurd c (by decide)) (fun _ => ?_)
    refine Exists.intro _ (And.intro (c_readDeedK_22_39 (w := 11) (N := N) (v := v) (Or.inl rfl) hT hq hNL hR g0 g2 b0 b2 gN) (And.intro (And.intro (Nat.zero_le _) (Nat.zero_le _)) (fun zq h' hpo => ?_)))
    cases e1 : y_deed a m N (v 2 0 0) (v 0 0 0) 0 11 q with
    | inl e =>
      rw [e1] at hpo
      obtain ⟨rfl, F5, G5, rfl, u1, u2⟩ := hpo
      exact bad e F5 G5 _ ((y_ordr_K (Or.inl rfl)).trans e1) u1 u2
    | inr z =>
      rw [e1] at hpo
      obtain ⟨rfl, F5, G5, rfl, u1, u2, u3⟩ := hpo
      have ez : z.1.1 = 11 := by
        unfold y_deed at e1
        obtain ⟨p1, -, e1⟩ := y_bd_inr e1
        obtain ⟨p2, -, e1⟩ := y_bd_inr e1
        obtain ⟨p3, -, e1⟩ := y_bd_inr e1
        cases e1
        rfl
      exact fin z F5 G5 _ ((y_ordr_K (Or.inl rfl)).trans e1) u1 u2 u3 (by rw [ez]; decide) (fun h => by rw [ez] at h; exact absurd h (by decide)) (by rw [ez]; decide)
  · refine x_wp_ok ok62 [254] 6 ?_
    refine And.intro (fun _ => ?_) (fun c => absurd c (by decide))
    refine And.intro (fun _ => ?_) (fun c => absurd c (by decide))
    refine And.intro (fun _ => ?_) (fun c => absurd c (by decide))
    refine And.intro (fun c => absurd c (by decide)) (fun _ => ?_)
    refine And.intro (fun c => absurd c (by decide)) (fun _ => ?_)
    refine Exists.intro _ (And.intro (c_readDeedG_22_39 (w := 12) (N := N) (v := v) (Or.inl rfl) hT hq hNL hR g1 g2 b1 b2 gN) (And.intro (And.intro (Nat.zero_le _) (Nat.zero_le _)) (fun zq h' hpo => ?_)))
    cases e1 : y_deed a m N (v 2 0 0) (v 1 0 0) 4 12 q with
    | inl e =>
      rw [e1] at hpo
      obtain ⟨rfl, F5, G5, rfl, u1, u2⟩ := hpo
      exact bad e F5 G5 _ ((y_ordr_G (Or.inl rfl)).trans e1) u1 u2
    | inr z =>
      rw [e1] at hpo
      obtain ⟨rfl, F5, G5, rfl, u1, u2, u3⟩ := hpo
      have ez : z.1.1 = 12 := by
        unfold y_deed at e1
        obtain ⟨p1, -, e1⟩ := y_bd_inr e1
        obtain ⟨p2, -, e1⟩ := y_bd_inr e1
        obtain ⟨p3, -, e1⟩ := y_bd_inr e1
        cases e1
        rfl
      exact fin z F5 G5 _ ((y_ordr_G (Or.inl rfl)).trans e1) u1 u2 u3 (by rw [ez]; decide) (fun h => by rw [ez] at h; exact absurd h (by decide)) (by rw [ez]; decide)
  · refine x_wp_ok ok62 [254] 6 ?_
    refine And.intro (fun _ => ?_) (fun c => absurd c (by decide))
    refine And.intro (fun _ => ?_) (fun c => absurd c (by decide))
    refine And.intro (fun _ => ?_) (fun c => absurd c (by decide))
    refine And.intro (fun c => absurd c (by decide)) (fun _ => ?_)
    refine And.intro (fun c => absurd c (by decide)) (fun _ => ?_)
    refine Exists.intro _ (And.intro (c_readDeedG_22_39 (w := 13) (N := N) (v := v) (Or.inr rfl) hT hq hNL hR g1 g2 b1 b2 gN) (And.intro (And.intro (Nat.zero_le _) (Nat.zero_le _)) (fun zq h' hpo => ?_)))
    cases e1 : y_deed a m N (v 2 0 0) (v 1 0 0) 4 13 q with
    | inl e =>
      rw [e1] at hpo
      obtain ⟨rfl, F5, G5, rfl, u1, u2⟩ := hpo
      exact bad e F5 G5 _ ((y_ordr_G (Or.inr rfl)).trans e1) u1 u2
    | inr z =>
      rw [e1] at hpo
      obtain ⟨rfl, F5, G5, rfl, u1, u2, u3⟩ := hpo
      have ez : z.1.1 = 13 := by
        unfold y_deed at e1
        obtain ⟨p1, -, e1⟩ := y_bd_inr e1
        obtain ⟨p2, -, e1⟩ := y_bd_inr e1
        obtain ⟨p3, -, e1⟩ := y_bd_inr e1
        cases e1
        rfl
      exact fin z F5 G5 _ ((y_ordr_G (Or.inr rfl)).trans e1) u1 u2 u3 (by rw [ez]; decide) (fun h => by rw [ez] at h; exact absurd h (by decide)) (by rw [ez]; decide)
  · refine x_wp_ok ok62 [254] 6 ?_
    refine And.intro (fun _ => ?_) (fun c => absurd c (by decide))
    refine And.intro (fun _ => ?_) (fun c => absurd c (by decide))
    refine And.intro (fun _ => ?_) (fun c => absurd c (by decide))
    refine And.intro (fun c => absurd c (by decide)) (fun _ => ?_)
    refine And.intro (fun c => absurd c (by decide)) (fun _ => ?_)
    refine Exists.intro _ (And.intro (c_readDeedK_22_39 (w := 14) (N := N) (v := v) (Or.inr (Or.inl rfl)) hT hq hNL hR g0 g2 b0 b2 gN) (And.intro (And.intro (Nat.zero_le _) (Nat.zero_le _)) (fun zq h' hpo => ?_)))
    cases e1 : y_deed a m N (v 2 0 0) (v 0 0 0) 0 14 q with
    | inl e =>
      rw [e1] at hpo
      obtain ⟨rfl, F5, G5, rfl, u1, u2⟩ := hpo
      exact bad e F5 G5 _ ((y_ordr_K (Or.inr (Or.inl rfl))).trans e1) u1 u2
    | inr z =>
      rw [e1] at hpo
      obtain ⟨rfl, F5, G5, rfl, u1, u2, u3⟩ := hpo
      have ez : z.1.1 = 14 := by
        unfold y_deed at e1
        obtain ⟨p1, -, e1⟩ := y_bd_inr e1
        obtain ⟨p2, -, e1⟩ := y_bd_inr e1
        obtain ⟨p3, -, e1⟩ := y_bd_inr e1
        cases e1
        rfl
      exact fin z F5 G5 _ ((y_ordr_K (Or.inr (Or.inl rfl))).trans e1) u1 u2 u3 (by rw [ez]; decide) (fun h => by rw [ez] at h; exact absurd h (by decide)) (by rw [ez]; decide)
  · refine x_wp_ok ok62 [254] 6 ?_
    refine And.intro (fun _ => ?_) (fun c => absurd c (by decide))
    refine And.intro (fun _ => ?_) (fun c => absurd c (by decide))
    refine And.intro (fun _ => ?_) (fun c => absurd c (by decide))
    refine And.intro (fun c => absurd c (by decide)) (fun _ => ?_)
    refine And.intro (fun c => absurd c (by decide)) (fun _ => ?_)
    refine Exists.intro _ (And.intro (c_readDeedK_22_39 (w := 15) (N := N) (v := v) (Or.inr (Or.inr rfl)) hT hq hNL hR g0 g2 b0 b2 gN) (And.intro (And.intro (Nat.zero_le _) (Nat.zero_le _)) (fun zq h' hpo => ?_)))
    cases e1 : y_deed a m N (v 2 0 0) (v 0 0 0) 0 15 q with
    | inl e =>
      rw [e1] at hpo
      obtain ⟨rfl, F5, G5, rfl, u1, u2⟩ := hpo
      exact bad e F5 G5 _ ((y_ordr_K (Or.inr (Or.inr rfl))).trans e1) u1 u2
    | inr z =>
      rw [e1] at hpo
      obtain ⟨rfl, F5, G5, rfl, u1, u2, u3⟩ := hpo
      have ez : z.1.1 = 15 := by
        unfold y_deed at e1
        obtain ⟨p1, -, e1⟩ := y_bd_inr e1
        obtain ⟨p2, -, e1⟩ := y_bd_inr e1
        obtain ⟨p3, -, e1⟩ := y_bd_inr e1
        cases e1
        rfl
      exact fin z F5 G5 _ ((y_ordr_K (Or.inr (Or.inr rfl))).trans e1) u1 u2 u3 (by rw [ez]; decide) (fun h => by rw [ez] at h; exact absurd h (by decide)) (by rw [ez]; decide)
  · refine x_wp_ok ok62 [254] 6 ?_
    refine And.intro (fun c => absurd rfl c) (fun _ => ?_)
    refine Exists.intro _ (And.intro (c_takeNumber (lo := 1) (hi := 20) (by decide) (by decide) hT hR) (And.intro (And.intro (Nat.zero_le _) (Nat.zero_le _)) (fun zq h' hpo => ?_)))
    cases e1 : y_nbr a m 1 20 q with
    | inl e =>
      obtain ⟨rfl, F5, G5, rfl, u1, u2⟩ := x_PT_l e1 hpo
      refine bad e F5 G5 _ (y_ordr_16.trans ?_) (x_fk_10 (by decide) u1) u2
      unfold y_numb
      rw [e1]
      rfl
    | inr x =>
      obtain ⟨rfl, F5, G5, rfl, u1, u2, u3⟩ := x_PT_r e1 hpo
      refine fin ((16, 0, 0, x.1, 0), x.2) F5 G5 _ (y_ordr_16.trans ?_) (x_fk_10 (by decide) u1) u2 ⟨fun h => absurd (show (16 : Nat) ≤ 15 from h) (by decide), fun h => absurd (show 18 ≤ (16 : Nat) ∧ (16 : Nat) ≤ 20 from h) (by decide), fun _ _ => u3⟩ (show y_tr (nI 16) = nI (y_wd 16) by decide) (fun h _ => absurd (show 17 < (16 : Nat) from h) (by decide)) (show (16 : Nat) ≠ 23 by decide)
      unfold y_numb
      rw [e1]
      rfl
  · refine x_wp_ok ok62 [254] 6 ?_
    refine And.intro (fun _ => ?_) (fun c => absurd c (by decide))
    refine And.intro (fun _ => ?_) (fun c => absurd c (by decide))
    refine And.intro (fun _ => ?_) (fun c => absurd c (by decide))
    refine And.intro (fun _ => ?_) (fun c => absurd rfl c)
    exact fin ((17, 0, 0, 0, 0), q) F G _ y_ordr_17 x_fk_r hR ⟨fun h => absurd (show (17 : Nat) ≤ 15 from h) (by decide), fun h => absurd (show 18 ≤ (17 : Nat) ∧ (17 : Nat) ≤ 20 from h) (by decide), fun h => absurd rfl h⟩ (show y_tr (nI 17) = nI (y_wd 17) by decide) (fun h => absurd (show 17 < (17 : Nat) from h) (by decide)) (show (17 : Nat) ≠ 23 by decide)
  · refine x_wp_ok ok62 [254] 6 ?_
    refine And.intro (fun _ => ?_) (fun c => absurd c (by decide))
    refine And.intro (fun _ => ?_) (fun c => absurd c (by decide))
    refine And.intro (fun c => absurd rfl c) (fun _ => ?_)
    refine Exists.intro _ (And.intro (c_readTest_22_39 (N := N) (v := v) hT hq hNL hR g1 g2 b1 b2 gN) (And.intro (And.intro (Nat.zero_le _) (Nat.zero_le _)) (fun zq h' hpo => ?_)))
    cases e1 : y_tst a m N (v 2 0 0) (v 1 0 0) q with
    | inl e =>
      rw [e1] at hpo
      obtain ⟨rfl, F5, G5, rfl, u1, u2⟩ := hpo
      exact bad e F5 G5 _ (y_ordr_18.trans e1) u1 u2
    | inr z =>
      rw [e1] at hpo
      obtain ⟨rfl, F5, G5, rfl, u1, u2, u3⟩ := hpo
      have ez := y_tst_o e1
      exact fin z F5 G5 _ (y_ordr_18.trans e1) u1 u2 u3 (by rw [y_wd_18 ez]; decide) (fun _ _ => Or.inl rfl) (by omega)
  · refine x_wp_ok ok62 [254] 6 ?_
    refine And.intro (fun _ => ?_) (fun c => absurd c (by decide))
    refine And.intro (fun c => absurd rfl c) (fun _ => ?_)
    refine Exists.intro _ (And.intro (c_takeNumber (lo := 1) (hi := 99) (by decide) (by decide) hT hR) (And.intro (And.intro (Nat.zero_le _) (Nat.zero_le _)) (fun zq h' hpo => ?_)))
    cases e1 : y_nbr a m 1 99 q with
    | inl e =>
      obtain ⟨rfl, F5, G5, rfl, u1, u2⟩ := x_PT_l e1 hpo
      refine bad e F5 G5 _ (y_ordr_19.trans ?_) (x_fk_10 (by decide) u1) u2
      unfold y_numb
      rw [e1]
      rfl
    | inr x =>
      obtain ⟨rfl, F5, G5, rfl, u1, u2, u3⟩ := x_PT_r e1 hpo
      refine fin ((22, 0, 0, x.1, 0), x.2) F5 G5 _ (y_ordr_19.trans ?_) (x_fk_10 (by decide) u1) u2 ⟨fun h => absurd (show (22 : Nat) ≤ 15 from h) (by decide), fun h => absurd (show 18 ≤ (22 : Nat) ∧ (22 : Nat) ≤ 20 from h) (by decide), fun _ _ => u3⟩ (show y_tr (nI 19) = nI (y_wd 22) by decide) (fun h _ => Or.inr rfl) (show (22 : Nat) ≠ 23 by decide)
      unfold y_numb
      rw [e1]
      rfl
  · refine x_wp_ok ok62 [254] 6 ?_
    refine And.intro (fun _ => ?_) (fun c => absurd c (by decide))
    refine And.intro (fun _ => ?_) (fun c => absurd c (by decide))
    refine And.intro (fun _ => ?_) (fun c => absurd c (by decide))
    refine And.intro (fun c => absurd c (by decide)) (fun _ => ?_)
    refine And.intro (fun _ => ?_) (fun c => absurd rfl c)
    exact fin ((24, 0, 0, 0, 0), q) F G _ y_ordr_21 x_fk_r hR ⟨fun h => absurd (show (24 : Nat) ≤ 15 from h) (by decide), fun h => absurd (show 18 ≤ (24 : Nat) ∧ (24 : Nat) ≤ 20 from h) (by decide), fun _ h => absurd rfl h⟩ (show y_tr (nI 21) = nI (y_wd 24) by decide) (fun _ h => absurd rfl h) (show (24 : Nat) ≠ 23 by decide)
theorem c_readStep_22_39 (hT : y_TP a m) (hI : y_RI (v 2 0 0) (v 0 0 0) (v 1 0 0) S) (hS : x_RS 32 a m S q f g) (h0 : f 22 0 = nI (v 0 0 0)) (h1 : f 22 1 = nI (v 1 0 0)) (h2 : f 22 2 = nI (v 2 0 0)) (b0 : v 0 0 0 ≤ 4) (b1 : v 1 0 0 ≤ 5) (b2 : v 2 0 0 ≤ 5) (hN : y_NR (g 24) v N) (hw20 : y_wm a m q ≠ 20) : x_Ct 62 (d + 4) [.ref 610] (f, g, x_HR 22 39, dm, n) (x_PR 32 a m f g (x_HR 22 39) dm n (y_rst a m N (v 2 0 0) (v 0 0 0) (v 1 0 0) S q)) := by
  obtain ⟨Y, hYd⟩ : ∃ Y, Y = y_rst a m N (v 2 0 0) (v 0 0 0) (v 1 0 0) S q := ⟨_, rfl⟩
  rw [← hYd]
  obtain ⟨Po, hPo⟩ : ∃ Po : Option Value → xH → Prop, Po = x_PR 32 a m f g (x_HR 22 39) dm n Y := ⟨_, rfl⟩
  rw [← hPo]
  have hst := hI.2.1
  have hdp := hI.2.2.1
  have hnl := hI.1
  have e1 : f 32 1 = nI S.2.2.1 := hS.2.1
  have e2 : f 32 2 = nI S.2.1 := hS.2.2.1
  have e4 : f 610 4 = nI S.2.2.2.1 := hS.2.2.2.1
  have fl : ∀ k, Y = .inl (y_fl a m q k) → ∀ F, x_f10 f g F g → x_FL F (y_fl a m q k) → Po (some (.int 0)) (F, g, x_HR 22 39, dm, n) := by
    intro k hY F u1 u2
    rw [hPo, hY]
    exact ⟨rfl, F, g, rfl, x_fR_10 u1, u2⟩
  refine x_Ct_w (by decide) (Nat.le_of_ble_eq_true rfl) ok62 [8] 6 ?_
  show x_J 62 (d + 4) Po 8 [some (.ref 610), some (.int (f 10 7)), none, none, none] [] (f, g, x_HR 22 39, dm, n) 0 0
  rw [hS.1.2.2.2.2.1]
  rcases y_wm_rg a m q with hw | ⟨w, hw25, hw⟩
  · have hY : Y = .inl (y_fl a m q 2) := by
      rw [hYd]
      unfold y_rst
      rw [if_neg hw20, if_pos (Or.inl (by rw [hw]; decide))]
    rw [hw]
    refine x_wp_ok ok62 [24] 6 ?_
    refine Exists.intro _ (And.intro c_isStepWord_no (And.intro (And.intro (Nat.zero_le _) (Nat.zero_le _)) (fun q h' hpo => ?_)))
    obtain ⟨rfl, rfl⟩ := hpo
    refine And.intro (fun c => absurd rfl c) (fun _ => ?_)
    refine Exists.intro _ (And.intro (c_fail (k := 2) hS.1) (And.intro (And.intro (Nat.zero_le _) (Nat.zero_le _)) (fun zq h' hpo => ?_)))
    obtain ⟨rfl, F1, rfl, u1, u2⟩ := hpo
    refine And.intro ?_ ⟨Or.inl rfl, Nat.le_refl _, Nat.le_refl _⟩
    exact fl 2 hY F1 u1 u2
  · have l1 : y_wm a m q < 11 ↔ w < 11 := by rw [hw]; exact nI_ltI (b := 11) (by omega) (by decide)
    have l2 : 21 < y_wm a m q ↔ 21 < w := by rw [hw]; exact nI_ltI (a := 21) (by decide) (by omega)
    have n20 : w ≠ 20 := fun e => hw20 (by rw [hw, e]; rfl)
    have e18 : (y_wm a m q = 18 ∨ y_wm a m q = 19) ↔ (w = 18 ∨ w = 19) := by
      rw [hw, show (18 : Int32) = nI 18 from rfl, show (19 : Int32) = nI 19 from rfl, nI_eq (by omega) (by decide), nI_eq (by omega) (by decide)]
    have ew : (y_wm a m q).toNatClampNeg = w := by rw [hw]; exact nI_clamp (by omega)
    have no : ∀ j, j < 25 → nI j ≠ -1 := by decide +kernel
    have hs : y_sa a m q = 1 := y_wm_sa (by rw [hw]; exact no w hw25)
    have hn := y_nxt_gt (a := a) (m := m) (q := q) (by rw [hs]; decide)
    rw [hw]
    refine x_wp_ok ok62 [24] 6 ?_
    refine Exists.intro _ (And.intro (c_isStepWord hw25) (And.intro (And.intro (Nat.zero_le _) (Nat.zero_le _)) (fun q h' hpo => ?_)))
    obtain ⟨rfl, rfl⟩ := hpo
    by_cases hb : 11 ≤ w ∧ w ≤ 21 ∧ w ≠ 20
    · rw [decide_eq_true hb]
      refine And.intro (fun _ => ?_) (fun c => absurd (show (1 : Int32) = 0 from c) (by decide))
      by_cases h30 : S.2.2.1 = 30
      · have hY : Y = .inl (y_fl a m q 6) := by
          rw [hYd]
          unfold y_rst
          rw [if_neg hw20, if_neg (by rw [l1, l2]; omega), if_pos h30]
        refine x_wp_ok ok62 [48, 58] 6 ?_
        refine And.intro (fun _ => ?_) (fun c => absurd (show nI 30 ≤ f 32 1 by rw [e1, h30]; decide) c)
        refine x_wp_ok ok62 [] 6 ?_
        refine Exists.intro _ (And.intro (c_fail (k := 6) hS.1) (And.intro (And.intro (Nat.zero_le _) (Nat.zero_le _)) (fun zq h' hpo => ?_)))
        obtain ⟨rfl, F1, rfl, u1, u2⟩ := hpo
        refine And.intro ?_ ⟨Or.inl rfl, Nat.le_refl _, Nat.le_refl _⟩
        exact fl 6 hY F1 u1 u2
      · have hNL : S.2.1 < 60 := by omega
        -- from the line on
        have st140 : ∀ F2 (dp' : Nat) (op' : Nat → Nat) (x2 : Int32), x_W4 32 S f g dp' op' (y_tr (nI w)) S.2.2.1 S.2.1 F2 g → x_RC a m q F2 g → (∀ k, k < S.2.1 → (∀ i, i < dp' → op' i ≠ k) → y_cl S k) → ((w = 18 ∨ w = 19) → ∃ i, i < dp' ∧ op' i = S.2.1) → Y = y_bd (y_ordr a m N (v 2 0 0) (v 0 0 0) (v 1 0 0) w (y_nxt a m q)) (fun z => y_bd (y_sgn a m 59 z.2) (fun q2 => .inr ((y_lne S.1 S.2.1 z.1, S.2.1 + 1, S.2.2.1 + 1, dp', op'), q2))) → x_J 62 (d + 4) Po 140 [some (.ref 610), some (.int (y_tr (nI w))), some (.int x2), some (.int (nI S.2.1)), none] [] (F2, g, x_HR 22 39, dm, n) 0 0 := by
          intro F2 dp' op' x2 hW hR2 hcl hcn hY
          obtain ⟨w1, w2, w3, w4, w5, w6, w7⟩ := hW
          obtain ⟨F3, hF3⟩ : ∃ F3, F3 = x_up (x_up F2 32 1 (nI (S.2.2.1 + 1))) 32 2 (nI (S.2.1 + 1)) := ⟨_, rfl⟩
          have hF3' : F3 = x_up (x_up F2 32 1 (F2 32 1 + Int32.ofInt 1)) 32 2 (x_up F2 32 1 (F2 32 1 + Int32.ofInt 1) 32 2 + Int32.ofInt 1) := by rw [x_up_j (by decide), w2, w3, nI_1o, nI_1o, hF3]
          have r3 : x_RC a m q F3 g := by
            rw [hF3]
            exact x_RC_up (by decide) (x_RC_up (by decide) hR2)
          have o3 : ∀ c, c ≠ 32 → F3 c = F2 c := fun c hc => by rw [hF3, x_up_k hc, x_up_k hc]
          have W3 : x_W4 32 S f g dp' op' (y_tr (nI w)) (S.2.2.1 + 1) (S.2.1 + 1) F3 g := by
            refine ⟨?_, ?_, ?_, ?_, fun i hi => ?_, fun c c1 c2 k hk => ?_, ?_⟩
            · rw [hF3]
              exact x_fR_t w1 (x_fR_t (x_fR_up (Or.inr (Or.inr (by decide)))) (x_fR_up (Or.inr (Or.inr (by decide)))))
            · rw [hF3, x_up_j (by decide), x_up_s]
            · rw [hF3, x_up_s]
            · rw [o3 610 (by decide)]; exact w4
            · rw [o3 611 (by decide)]; exact w5 i hi
            · rw [o3 c (by omega)]; exact w6 c c1 c2 k hk
            · rw [o3 _ (by decide)]; exact w7
          refine x_wp_ok ok62 [173] 6 ?_
          show ∃ P, x_Ct 82 (d + 3) [.ref 10] (x_up (x_up F2 32 1 (F2 32 1 + Int32.ofInt 1)) 32 2 (x_up F2 32 1 (F2 32 1 + Int32.ofInt 1) 32 2 + Int32.ofInt 1), g, x_HR 22 39, dm, n) P ∧ _
          rw [← hF3']
          refine Exists.intro _ (And.intro (c_adv hT r3 (by rw [hs]; decide) (by rw [hs]; decide)) (And.intro (And.intro (Nat.zero_le _) (Nat.zero_le _)) (fun zq h' hpo => ?_)))
          obtain ⟨rfl, F4, G4, rfl, u1, -, u3⟩ := hpo
          refine c_stepOrd_22_39 hb.1 hb.2.1 hb.2.2 hT hn.2 hNL hPo hS (x_W4_k (by decide) W3 (x_fk_10 (by decide) u1)) u3 h0 h1 h2 b0 b1 b2 hN hcl hcn hY
        have hC0 : ∀ c, 33 ≤ c → c ≤ 38 → ∀ k, k ≠ S.2.1 → x_up f 33 S.2.1 (y_tr (nI w)) c k = f c k := by
          intro c c1 c2 k hk
          by_cases e : c = 33
          · rw [e, x_up_j hk]
          · rw [x_up_k e]
        have st98 : ∀ b : Bool, (b = true ↔ (w = 18 ∨ w = 19)) → ¬ (b = true ∧ S.2.2.2.1 = 3) → x_J 62 (d + 4) Po 98 [some (.ref 610), some (.int (y_tr (nI w))), some (.int (x_bo b)), none, none] [] (f, g, x_HR 22 39, dm, n) 0 0 := by
          intro b hb18 hb3
          have cN : (nI S.2.1).toNatClampNeg = S.2.1 := nI_clamp (by omega)
          have hYg : Y = y_bd (y_ordr a m N (v 2 0 0) (v 0 0 0) (v 1 0 0) w (y_nxt a m q)) (fun z => y_bd (y_sgn a m 59 z.2) (fun q2 => .inr ((y_lne S.1 S.2.1 z.1, S.2.1 + 1, S.2.2.1 + 1, if y_wm a m q = 18 ∨ y_wm a m q = 19 then S.2.2.2.1 + 1 else S.2.2.2.1, if y_wm a m q = 18 ∨ y_wm a m q = 19 then va_up S.2.2.2.2 S.2.2.2.1 S.2.1 else S.2.2.2.2), q2))) := by
            rw [hYd]
            unfold y_rst
            rw [if_neg hw20, if_neg (by rw [l1, l2]; omega), if_neg h30, if_neg (fun h => hb3 ⟨hb18.mpr (e18.mp h.1), h.2⟩), ew]
          refine x_wp_ok ok62 [106] 6 ?_
          show x_J 62 (d + 4) Po 106 [some (.ref 610), some (.int (y_tr (nI w))), some (.int (x_bo b)), some (.int (f 32 2)), none] [] (f, g, x_HR 22 39, dm, n) 0 0
          rw [e2]
          refine x_wp_ok ok62 [140] 6 ?_
          refine And.intro (x_ix_nI (by omega) (by omega)) ?_
          cases hbb : b with
          | false =>
            have nb : ¬ (w = 18 ∨ w = 19) := fun h => by rw [hb18.mpr h] at hbb; cases hbb
            rw [if_neg (fun h => nb (e18.mp h)), if_neg (fun h => nb (e18.mp h))] at hYg
            refine And.intro (fun _ => ?_) (fun c => absurd rfl c)
            rw [cN]
            refine st140 (x_up f 33 S.2.1 (y_tr (nI w))) S.2.2.2.1 S.2.2.2.2 _ ⟨x_fR_up (Or.inr (Or.inr (by decide))), ?_, ?_, ?_, fun i hi => ?_, hC0, x_up_s _ _ _ _⟩ (x_RC_up (by decide) hS.1) (fun k _ h => h) (fun h => absurd h nb) hYg
            · rw [x_up_k (by decide)]; exact e1
            · rw [x_up_k (by decide)]; exact e2
            · rw [x_up_k (by decide)]; exact e4
            · rw [x_up_k (by decide)]; exact hS.2.2.2.2.1 i hi
          | true =>
            have yb := hb18.mp hbb
            have d3 : S.2.2.2.1 < 3 := by
              have : S.2.2.2.1 ≠ 3 := fun e => hb3 ⟨hbb, e⟩
              omega
            rw [if_pos (e18.mpr yb), if_pos (e18.mpr yb)] at hYg
            refine And.intro (fun c => absurd (show (1 : Int32) = 0 from c) (by decide)) (fun _ => ?_)
            refine And.intro (by show x_ix (f 610 4) 3; rw [e4]; exact x_ix_nI (by omega) (by omega)) ?_
            have c4 : (f 610 4).toNatClampNeg = S.2.2.2.1 := by rw [e4]; exact nI_clamp (by omega)
            obtain ⟨F2, hF2⟩ : ∃ F2, F2 = x_up (x_up (x_up f 33 S.2.1 (y_tr (nI w))) 611 S.2.2.2.1 (nI S.2.1)) 610 4 (nI (S.2.2.2.1 + 1)) := ⟨_, rfl⟩
            have hF2' : F2 = x_up (x_up (x_up f 33 (nI S.2.1).toNatClampNeg (y_tr (nI w))) 611 (f 610 4).toNatClampNeg (nI S.2.1)) 610 4 (f 610 4 + Int32.ofInt 1) := by rw [hF2, cN, c4, e4, nI_1o]
            show x_J 62 (d + 4) Po 140 [some (.ref 610), some (.int (y_tr (nI w))), some (.int 1), some (.int (nI S.2.1)), none] [] (x_up (x_up (x_up f 33 (nI S.2.1).toNatClampNeg (y_tr (nI w))) 611 (f 610 4).toNatClampNeg (nI S.2.1)) 610 4 (f 610 4 + Int32.ofInt 1), g, x_HR 22 39, dm, n) 0 0
            rw [← hF2']
            have o2 : ∀ c, c ≠ 610 → c ≠ 611 → F2 c = x_up f 33 S.2.1 (y_tr (nI w)) c := fun c c1 c2 => by rw [hF2, x_up_k c1, x_up_k c2]
            refine st140 F2 (S.2.2.2.1 + 1) (va_up S.2.2.2.2 S.2.2.2.1 S.2.1) _ ⟨?_, ?_, ?_, ?_, fun i hi => ?_, fun c c1 c2 k hk => ?_, ?_⟩ ?_ (fun k hk h i hi => ?_) (fun _ => ⟨S.2.2.2.1, by omega, x_us⟩) hYg
            · rw [hF2]
              exact x_fR_t (x_fR_up (Or.inr (Or.inr (by decide)))) (x_fR_t (x_fR_up (Or.inr (Or.inl rfl))) (x_fR_up (Or.inl rfl)))
            · rw [o2 _ (by decide) (by decide), x_up_k (by decide)]; exact e1
            · rw [o2 _ (by decide) (by decide), x_up_k (by decide)]; exact e2
            · rw [hF2, x_up_s]
            · rw [hF2, x_up_k (by decide)]
              by_cases ei : i = S.2.2.2.1
              · rw [ei, x_up_s, x_us]
              · rw [x_up_j ei, x_up_k (by decide), x_un ei]
                exact hS.2.2.2.2.1 i (by omega)
            · rw [o2 c (by omega) (by omega)]
              exact hC0 c c1 c2 k hk
            · rw [o2 _ (by decide) (by decide)]
              exact x_up_s _ _ _ _
            · rw [hF2]
              exact x_RC_up (by decide) (x_RC_up (by decide) (x_RC_up (by decide) hS.1))
            · have hi : i < S.2.2.2.1 := hi
              have := h i (by omega)
              rw [x_un (by omega)] at this
              exact this
        have st76 : ∀ b : Bool, (b = true ↔ (w = 18 ∨ w = 19)) → x_J 62 (d + 4) Po 76 [some (.ref 610), some (.int (y_tr (nI w))), some (.int (x_bo b)), none, none] [] (f, g, x_HR 22 39, dm, n) 0 0 := by
          intro b hb18
          refine x_wp_ok ok62 [98] 6 ?_
          cases hbb : b with
          | false =>
            refine And.intro (fun _ => ?_) (fun c => absurd rfl c)
            rw [hbb] at hb18
            exact st98 false hb18 (fun h => by cases h.1)
          | true =>
            rw [hbb] at hb18
            refine And.intro (fun c => absurd (show (1 : Int32) = 0 from c) (by decide)) (fun _ => ?_)
            by_cases h3 : S.2.2.2.1 = 3
            · have hY : Y = .inl (y_fl a m q 7) := by
                rw [hYd]
                unfold y_rst
                rw [if_neg hw20, if_neg (by rw [l1, l2]; omega), if_neg h30, if_pos ⟨e18.mpr (hb18.mp rfl), h3⟩]
              refine And.intro (fun c => absurd (show f 610 4 < nI 3 from c) (by rw [e4, h3]; decide)) (fun _ => ?_)
              refine Exists.intro _ (And.intro (c_fail (k := 7) hS.1) (And.intro (And.intro (Nat.zero_le _) (Nat.zero_le _)) (fun zq h' hpo => ?_)))
              obtain ⟨rfl, F1, rfl, u1, u2⟩ := hpo
              refine And.intro ?_ ⟨Or.inl rfl, Nat.le_refl _, Nat.le_refl _⟩
              exact fl 7 hY F1 u1 u2
            · refine And.intro (fun _ => ?_) (fun c => absurd (show f 610 4 < nI 3 by rw [e4]; exact nI_lt (by omega) (by decide)) c)
              exact st98 true hb18 (fun h => h3 h.2)
        refine x_wp_ok ok62 [48, 58] 6 ?_
        refine And.intro (fun c => absurd (show nI 30 ≤ f 32 1 from c) (by rw [e1]; exact nI_ge (by omega) (by decide))) (fun _ => ?_)
        refine And.intro (fun _ => ?_) (fun c => absurd (show f 32 2 < nI 60 by rw [e2]; exact nI_lt hNL (by decide)) c)
        refine x_wp_ok ok62 [76] 6 ?_
        obtain ⟨t18, t22⟩ := y_tr_18 hw25
        refine And.intro (fun c => ?_) (fun c => ?_)
        · exact st76 true ⟨fun _ => Or.inl (t18.mp c), fun _ => rfl⟩
        · have c : ¬ y_tr (nI w) = 18 := c
          refine And.intro (fun c2 => ?_) (fun c2 => ?_)
          · have c2 : ¬ y_tr (nI w) = 22 := c2
            exact st76 false ⟨fun h => absurd h (by decide), fun h => absurd h (fun h => h.elim (fun h => c (t18.mpr h)) (fun h => c2 (t22.mpr h)))⟩
          · exact st76 true ⟨fun _ => Or.inr (t22.mp c2), fun _ => rfl⟩
    · have hY : Y = .inl (y_fl a m q 2) := by
        rw [hYd]
        unfold y_rst
        rw [if_neg hw20, if_pos (by rw [l1, l2]; omega)]
      rw [decide_eq_false hb]
      refine And.intro (fun c => absurd rfl c) (fun _ => ?_)
      refine Exists.intro _ (And.intro (c_fail (k := 2) hS.1) (And.intro (And.intro (Nat.zero_le _) (Nat.zero_le _)) (fun zq h' hpo => ?_)))
      obtain ⟨rfl, F1, rfl, u1, u2⟩ := hpo
      refine And.intro ?_ ⟨Or.inl rfl, Nat.le_refl _, Nat.le_refl _⟩
      exact fl 2 hY F1 u1 u2
end C98
