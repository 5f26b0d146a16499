/-! the model reads a step -/
def x_lm (F : Nat → Nat → Int32) (S : xTr) (k : Nat) : Prop := F 501 (1952 + 6 * k) = nI (y_om (S.1 0 k)) ∧ (S.1 0 k ≤ 15 → F 501 (1952 + 6 * k + 1) = nI (S.1 1 k) ∧ F 501 (1952 + 6 * k + 2) = nI (S.1 2 k) ∧ F 501 (1952 + 6 * k + 3) = nI (S.1 3 k)) ∧ (S.1 0 k = 16 ∨ S.1 0 k = 22 → F 501 (1952 + 6 * k + 1) = nI (S.1 3 k)) ∧ (18 ≤ S.1 0 k ∧ S.1 0 k ≤ 20 → (S.1 0 k ≠ 18 → F 501 (1952 + 6 * k + 1) = nI (S.1 1 k)) ∧ F 501 (1952 + 6 * k + 2) = nI (S.1 3 k) ∧ F 501 (1952 + 6 * k + 5) = nI (S.1 5 k)) ∧ (17 < S.1 0 k → S.1 0 k ≠ 24 → y_cl S k → F 501 (1952 + 6 * k + 4) = nI (S.1 4 k))
def x_RTm (a : Nat → Int32) (m : Nat) (S : xTr) (q : Nat) (F : Nat → Nat → Int32) : Prop := x_RMt a m q F ∧ F 500 22 = nI S.2.2.2.1 ∧ F 500 23 = nI S.2.2.1 ∧ F 501 1867 = nI S.2.1 ∧ (∀ i, i < S.2.2.2.1 → F 508 i = nI (S.2.2.2.2 i)) ∧ ∀ k, k < S.2.1 → x_lm F S k
def x_fMr (f F : Nat → Nat → Int32) : Prop := (∀ c, c ≠ 500 → c ≠ 501 → c ≠ 508 → F c = f c) ∧ (∀ j, j < 12 ∨ j = 16 ∨ (18 < j ∧ j ≠ 22 ∧ j ≠ 23) → F 500 j = f 500 j) ∧ ∀ j, j ≠ 1867 → j < 1952 ∨ 2312 ≤ j → F 501 j = f 501 j
def x_PMr (a : Nat → Int32) (m : Nat) (f : Nat → Nat → Int32) (g : Nat → Nat → Int64) (ρ : Nat → Nat → Option Nat) (dm : List Nat) (n : Nat) (X : xF (xTr × Nat)) (z : Option Value) (h' : xH) : Prop := match X with
  | .inl e => z = some (.int 0) ∧ ∃ F, h' = (F, g, ρ, dm, n) ∧ x_fMr f F ∧ x_FM F e
  | .inr w => z = some (.int 1) ∧ ∃ F, h' = (F, g, ρ, dm, n) ∧ x_fMr f F ∧ x_RTm a m w.1 w.2 F
/-- the line has been begun -/
def x_B4 (a : Nat → Int32) (m : Nat) (S : xTr) (q w n1 : Nat) (f F : Nat → Nat → Int32) : Prop := x_RMt a m q F ∧ (∀ c, c ≠ 500 → c ≠ 501 → F c = f c) ∧ (∀ j, j < 12 ∨ j = 16 ∨ (18 < j ∧ j ≠ 23) → F 500 j = f 500 j) ∧ F 500 23 = nI n1 ∧ F 501 1867 = nI (S.2.1 + 1) ∧ F 501 (1952 + 6 * S.2.1) = nI w ∧ ∀ j, j ≠ 1867 → j < 1952 + 6 * S.2.1 ∨ 1952 + 6 * S.2.1 + 5 < j → F 501 j = f 501 j
section Ca2
variable {f : Nat → Nat → Int32} {g : Nat → Nat → Int64} {r t : Nat} {dm : List Nat} {n d L w : Nat} {v : xV} {a : Nat → Int32} {m q : Nat} {N : Nat → Int64} {ρ : Nat → Nat → Option Nat} {S : xTr} {Y : xF (xTr × Nat)} {z : Option Value} {h' : xH} {e : Nat × Nat} {F : Nat → Nat → Int32}
theorem x_fMr_r : x_fMr f f := ⟨fun _ _ _ _ => rfl, fun _ _ => rfl, fun _ _ _ => rfl⟩
theorem x_fMr_t {F2 : Nat → Nat → Int32} (h1 : x_fMr f F) (h2 : x_fMr F F2) : x_fMr f F2 := ⟨fun c c1 c2 c3 => (h2.1 c c1 c2 c3).trans (h1.1 c c1 c2 c3), fun j hj => (h2.2.1 j hj).trans (h1.2.1 j hj), fun j h1' h2' => (h2.2.2 j h1' h2').trans (h1.2.2 j h1' h2')⟩
theorem x_fMr_5 (h : x_f5 f F) : x_fMr f F := ⟨fun c c1 _ _ => h.1 c c1, fun j hj => h.2 j (by omega), fun j _ _ => by rw [h.1 501 (by decide)]⟩
theorem x_fMr_O {rr : Nat} (h1 : 1952 ≤ rr) (h2 : rr + 5 < 2312) (h : x_fO rr f F) : x_fMr f F := ⟨fun c c1 c2 _ => h.1 c c1 c2, fun j hj => h.2.1 j (by omega), fun j _ h4 => h.2.2 j (by omega)⟩
theorem x_fMr_B {n1 : Nat} (hNL : S.2.1 < 60) (h : x_B4 a m S q w n1 f F) : x_fMr f F := ⟨fun c c1 c2 _ => h.2.1 c c1 c2, fun j hj => h.2.2.1 j (by omega), fun j h1 h2 => h.2.2.2.2.2.2 j h1 (by omega)⟩
theorem x_lm_cg {S' : xTr} {k : Nat} (h : x_lm f S k) (hF : ∀ j, 1952 + 6 * k ≤ j → j ≤ 1952 + 6 * k + 5 → j ≠ 1952 + 6 * k + 4 → F 501 j = f 501 j) (hs : ∀ c, c ≠ 4 → S'.1 c k = S.1 c k) (h4 : 17 < S.1 0 k → S.1 0 k ≠ 24 → y_cl S' k → F 501 (1952 + 6 * k + 4) = nI (S'.1 4 k)) : x_lm F S' k := by
  obtain ⟨l1, l2, l3, l4, -⟩ := h
  unfold x_lm
  rw [hs 0 (by decide), hs 1 (by decide), hs 2 (by decide), hs 3 (by decide), hs 5 (by decide), hF (1952 + 6 * k) (by omega) (by omega) (by omega), hF (1952 + 6 * k + 1) (by omega) (by omega) (by omega), hF (1952 + 6 * k + 2) (by omega) (by omega) (by omega), hF (1952 + 6 * k + 3) (by omega) (by omega) (by omega), hF (1952 + 6 * k + 5) (by omega) (by omega) (by omega)]
  exact ⟨l1, l2, l3, l4, h4⟩
/-- the sign behind a step -/
theorem m_stepFin {S' : xTr} {q2 : Nat} {x1 x2 x3 x4 x5 : Option Value} {Po : Option Value → xH → Prop} (hT : y_TP a m) (hPo : Po = x_PMr a m f g (x_HR r t) dm n Y) (hS : x_RTm a m S' q2 F) (hf : x_fMr f F) (hY : Y = y_bd (y_sgn a m 59 q2) (fun q3 => .inr (S', q3))) : x_J 222 (d + 11) Po 279 [some (.ref 500), x1, x2, x3, x4, x5] [] (F, g, x_HR r t, dm, n) 0 0 := by
  refine x_wp_ok ok222 [] 6 ?_
  refine Exists.intro _ (And.intro (m_wantSign (c := 59) rfl hT hS.1) (And.intro (And.intro (Nat.zero_le _) (Nat.zero_le _)) (fun zq h' hpo => ?_)))
  cases e1 : y_sgn a m 59 q2 with
  | inl e =>
    obtain ⟨rfl, F1, rfl, u1, u2⟩ := x_PUm_l e1 hpo
    refine And.intro ?_ ⟨Or.inl rfl, Nat.le_refl _, Nat.le_refl _⟩
    rw [hPo, hY, e1]
    exact ⟨rfl, F1, rfl, x_fMr_t hf (x_fMr_5 u1), u2⟩
  | inr q5 =>
    obtain ⟨rfl, F1, rfl, u2, u1, -⟩ := x_PUm_r e1 hpo
    refine And.intro ?_ ⟨Or.inr rfl, Nat.le_refl _, Nat.le_refl _⟩
    rw [hPo, hY, e1]
    obtain ⟨-, s1, s2, s3, s4, s5⟩ := hS
    refine ⟨rfl, F1, rfl, x_fMr_t hf (x_fMr_5 u1), u2, ?_, ?_, ?_, fun i hi => ?_, fun k hk => ?_⟩
    · rw [u1.2 22 (by decide)]; exact s1
    · rw [u1.2 23 (by decide)]; exact s2
    · rw [u1.1 501 (by decide)]; exact s3
    · rw [u1.1 508 (by decide)]; exact s4 i hi
    · refine x_lm_cg (s5 k hk) (fun j _ _ _ => by rw [u1.1 501 (by decide)]) (fun _ _ => rfl) (fun h1 h2 h3 => ?_)
      rw [u1.1 501 (by decide)]
      exact (s5 k hk).2.2.2.2 h1 h2 h3
theorem m_stepMid {b n1 : Nat} {bo : Int32} {Po : Option Value → xH → Prop} (hNL : S.2.1 < 60) (hw : w < 25) (hT : y_TP a m) (hsa : y_sa a m q ≠ 3) (hS : x_RTm a m S q f) (hnext : ∀ F4 x5, x_B4 a m S (y_nxt a m q) w n1 f F4 → x_J 222 (d + 11) Po 186 [some (.ref 500), some (.int (nI w)), some (.int (nI S.2.1)), some (.int (nI (1952 + 6 * S.2.1))), some (.int bo), some x5] [] (F4, g, x_HR r t, dm, n) 0 0) : x_J 222 (d + 11) Po 137 [some (.ref 500), some (.int (nI w)), some (.int (nI S.2.1)), some (.int (nI (1952 + 6 * S.2.1))), some (.int bo), none] [] (x_up f 500 23 (nI n1), g, x_HR r t, dm, n) 0 0 := by
  obtain ⟨rr, hrr⟩ : ∃ rr, rr = 1952 + 6 * S.2.1 := ⟨_, rfl⟩
  obtain ⟨hR, s1, s2, s3, s4, s5⟩ := hS
  rw [← hrr] at hnext ⊢
  have cr : (nI rr).toNatClampNeg = rr := nI_clamp (by omega)
  have lp : ∀ j i (A : Nat → Int32), i + j = 6 → 1 ≤ i → (∀ k, k < rr ∨ rr + 5 < k → A k = f 501 k) → A rr = nI w → x_J 222 (d + 11) Po 147 [some (.ref 500), some (.int (nI w)), some (.int (nI S.2.1)), some (.int (nI rr)), some (.int bo), some (.int (nI i))] [] (va_up (x_up f 500 23 (nI n1)) 501 A, g, x_HR r t, dm, n) 0 0 := by
    intro j
    induction j with
    | zero =>
      intro i A hi h1 hA hr
      obtain rfl : i = 6 := by omega
      have a67 : A 1867 = nI S.2.1 := by rw [hA 1867 (by omega)]; exact s3
      refine x_wp_ok ok222 [147, 186] 6 ?_
      refine And.intro (fun _ => ?_) (fun c => absurd (by decide) c)
      refine And.intro (by unfold x_ix; decide) ?_
      refine And.intro (by unfold x_ix; decide) ?_
      obtain ⟨F3, hF3⟩ : ∃ F3, F3 = x_up (va_up (x_up f 500 23 (nI n1)) 501 A) 501 1867 (nI (S.2.1 + 1)) := ⟨_, rfl⟩
      have hF3' : F3 = x_up (va_up (x_up f 500 23 (nI n1)) 501 A) 501 1867 (va_up (x_up f 500 23 (nI n1)) 501 A 501 1867 + Int32.ofInt 1) := by rw [hF3, x_us, a67, nI_1o]
      show ∃ P, x_Ct 197 (d + 10) [.ref 500] (x_up (va_up (x_up f 500 23 (nI n1)) 501 A) 501 1867 (va_up (x_up f 500 23 (nI n1)) 501 A 501 1867 + Int32.ofInt 1), g, x_HR r t, dm, n) P ∧ _
      rw [← hF3']
      have e501 : F3 501 = va_up A 1867 (nI (S.2.1 + 1)) := by rw [hF3, x_up_c, x_us]
      have eo : ∀ c, c ≠ 501 → F3 c = x_up f 500 23 (nI n1) c := fun c hc => by rw [hF3, x_up_k hc, x_un hc]
      have r3 : x_RMt a m q F3 := ⟨by rw [eo 507 (by decide), x_up_k (by decide)]; exact hR.1, by rw [eo 500 (by decide)]; exact hR.2.1, by rw [eo 500 (by decide)]; exact hR.2.2⟩
      refine Exists.intro _ (And.intro (m_ahd hT r3 hsa) (And.intro (And.intro (Nat.zero_le _) (Nat.zero_le _)) (fun zq h' hpo => ?_)))
      obtain ⟨rfl, F4, rfl, u1, -, u3⟩ := hpo
      refine hnext F4 _ ⟨u3, fun c c1 c2 => ?_, fun j hj => ?_, ?_, ?_, ?_, fun j j1 j2 => ?_⟩
      · rw [u1.1 c c1, eo c c2, x_up_k c1]
      · rw [u1.2 j (by omega), eo 500 (by decide), x_up_j (by omega)]
      · rw [u1.2 23 (by decide), eo 500 (by decide), x_up_s]
      · rw [u1.1 501 (by decide), e501, x_us]
      · rw [← hrr, u1.1 501 (by decide), e501, x_un (by omega)]
        exact hr
      · rw [← hrr] at j2
        rw [u1.1 501 (by decide), e501, x_un j1]
        exact hA j j2
    | succ j ih =>
      intro i A hi h1 hA hr
      refine x_wp_ok ok222 [147, 186] 6 ?_
      refine And.intro (fun c => absurd (show nI 6 ≤ nI i from c) (nI_ge (by omega) (by decide))) (fun _ => ?_)
      have ii : nI rr + nI i = nI (rr + i) := nI_add rr i
      refine And.intro (by show x_ix (nI rr + nI i) 3168; rw [ii]; exact x_ix_nI (by omega) (by omega)) ?_
      have ci : (nI rr + nI i).toNatClampNeg = rr + i := by rw [ii]; exact nI_clamp (by omega)
      have e0 := ih (i + 1) (va_up A (rr + i) 0) (by omega) (by omega) (fun k hk => by rw [x_un (by omega)]; exact hA k hk) (by rw [x_un (by omega)]; exact hr)
      rw [← nI_1o, ← x_vu_up, ← ci] at e0
      exact e0
  refine x_wp_ok ok222 [147] 6 ?_
  refine And.intro (x_ix_nI (by omega) (by omega)) ?_
  have e0 := lp 5 1 (va_up (f 501) rr (nI w)) rfl (by decide) (fun k hk => x_un (by omega)) x_us
  have eu : x_up (x_up f 500 23 (nI n1)) 501 rr (nI w) = va_up (x_up f 500 23 (nI n1)) 501 (va_up (f 501) rr (nI w)) := by
    unfold x_up
    rw [x_un (show (501 : Nat) ≠ 500 by decide)]
  rw [← eu, ← cr] at e0
  rw [cr] at e0
  show x_J 222 (d + 11) Po 147 _ _ (x_up (x_up f 500 23 (nI n1)) 501 (nI rr).toNatClampNeg (nI w), g, x_HR r t, dm, n) 0 0
  rw [cr]
  exact e0
theorem m_reignStep (hT : y_TP a m) (hI : y_RI (v 2 0 0) (v 0 0 0) (v 1 0 0) S) (hS : x_RTm a m S q f) (h0 : f 501 0 = nI (v 0 0 0)) (h1 : f 501 1 = nI (v 1 0 0)) (h2 : f 501 2 = nI (v 2 0 0)) (b0 : v 0 0 0 ≤ 4) (b1 : v 1 0 0 ≤ 5) (b2 : v 2 0 0 ≤ 5) (hN : y_NR (g 502) v N) : x_Ct 222 (d + 11) [.ref 500] (f, g, x_HR r t, dm, n) (x_PMr a m f g (x_HR r t) dm n (y_rst a m N (v 2 0 0) (v 0 0 0) (v 1 0 0) S q)) := by
  obtain ⟨Y, hYd⟩ : ∃ Y, Y = y_rst a m N (v 2 0 0) (v 0 0 0) (v 1 0 0) S q := ⟨_, rfl⟩
  rw [← hYd]
  obtain ⟨Po, hPo⟩ : ∃ Po : Option Value → xH → Prop, Po = x_PMr a m f g (x_HR r t) dm n Y := ⟨_, rfl⟩
  rw [← hPo]
  have hst := hI.2.1
  have hdp := hI.2.2.1
  have hnl := hI.1
  have s22 : f 500 22 = nI S.2.2.2.1 := hS.2.1
  have s23 : f 500 23 = nI S.2.2.1 := hS.2.2.1
  have s67 : f 501 1867 = nI S.2.1 := hS.2.2.2.1
  have fl : ∀ k, Y = .inl (y_fl a m q k) → ∀ F, x_f5 f F → x_FM F (y_fl a m q k) → Po (some (.int 0)) (F, g, x_HR r t, dm, n) := by
    intro k hY F u1 u2
    rw [hPo, hY]
    exact ⟨rfl, F, rfl, x_fMr_5 u1, u2⟩
  have bad2 : Y = .inl (y_fl a m q 2) → ∀ x1 x2 x3 x4 x5, x_J 222 (d + 11) Po 69 [some (.ref 500), x1, x2, x3, x4, x5] [] (f, g, x_HR r t, dm, n) 0 0 := by
    intro hY x1 x2 x3 x4 x5
    refine x_wp_ok ok222 [] 6 ?_
    refine Exists.intro _ (And.intro (m_fails (k := 2) hS.1) (And.intro (And.intro (Nat.zero_le _) (Nat.zero_le _)) (fun zq h' hpo => ?_)))
    obtain ⟨rfl, F1, rfl, u1, u2⟩ := hpo
    refine And.intro ?_ ⟨Or.inl rfl, Nat.le_refl _, Nat.le_refl _⟩
    exact fl 2 hY F1 u1 u2
  refine x_Ct_w (by decide) (Nat.le_of_ble_eq_true rfl) ok222 [7] 6 ?_
  refine Exists.intro _ (And.intro (m_inWords hT hS.1) (And.intro (And.intro (Nat.zero_le _) (Nat.zero_le _)) (fun q h' hpo => ?_)))
  obtain ⟨rfl, rfl⟩ := hpo
  show x_J 222 (d + 11) Po 7 [some (.ref 500), some (.int (y_wm a m q)), none, none, none, none] [] (f, g, x_HR r t, dm, n) 0 0
  refine x_wp_ok ok222 [25] 6 ?_
  refine And.intro (by unfold x_ix; decide) ?_
  show x_J 222 (d + 11) Po 25 [some (.ref 500), some (.int (y_wm a m q)), some (.int (f 501 1867)), some (.int (nI 1952 + nI 6 * f 501 1867)), none, none] [] (f, g, x_HR r t, dm, n) 0 0
  rw [s67, pk_mul, nI_add]
  rcases y_wm_rg a m q with hw | ⟨w, hw25, hw⟩
  · have hw20 : y_wm a m q ≠ 20 := by rw [hw]; decide
    have hY : Y = .inl (y_fl a m q 2) := by
      rw [hYd]
      unfold y_rst
      rw [if_neg hw20, if_pos (Or.inl (by rw [hw]; decide))]
    rw [hw]
    refine x_wp_ok ok222 [69] 6 ?_
    refine And.intro (fun c => absurd c (by decide)) (fun _ => ?_)
    refine And.intro (fun _ => ?_) (fun c => absurd c (by decide))
    refine And.intro (fun _ => bad2 hY _ _ _ _ _) (fun c => absurd (by decide) c)
  · have l1 : y_wm a m q < 11 ↔ w < 11 := by rw [hw]; exact nI_ltI (b := 11) (by omega) (by decide)
    have l2 : 21 < y_wm a m q ↔ 21 < w := by rw [hw]; exact nI_ltI (a := 21) (by decide) (by omega)
    have n20 : y_wm a m q = 20 ↔ w = 20 := by rw [hw]; exact nI_eq (b := 20) (by omega) (by decide)
    have e18 : (y_wm a m q = 18 ∨ y_wm a m q = 19) ↔ (w = 18 ∨ w = 19) := by
      rw [hw, show (18 : Int32) = nI 18 from rfl, show (19 : Int32) = nI 19 from rfl, nI_eq (by omega) (by decide), nI_eq (by omega) (by decide)]
    have ew : (y_wm a m q).toNatClampNeg = w := by rw [hw]; exact nI_clamp (by omega)
    have no : ∀ j, j < 25 → nI j ≠ -1 := by decide +kernel
    have hs : y_sa a m q = 1 := y_wm_sa (by rw [hw]; exact no w hw25)
    have hn := y_nxt_gt (a := a) (m := m) (q := q) (by rw [hs]; decide)
    rw [hw]
    have st44 : ∀ b : Bool, (b = true ↔ (w = 18 ∨ w = 19)) → x_J 222 (d + 11) Po 44 [some (.ref 500), some (.int (nI w)), some (.int (nI S.2.1)), some (.int (nI (1952 + 6 * S.2.1))), some (.int (x_bo b)), none] [] (f, g, x_HR r t, dm, n) 0 0 := by
      intro b hb18
      by_cases hlo : w < 11 ∨ 21 < w
      · have hY : Y = .inl (y_fl a m q 2) := by
          rw [hYd]
          unfold y_rst
          rw [if_neg (by rw [n20]; omega), if_pos (by rw [l1, l2]; exact hlo)]
        refine x_wp_ok ok222 [69] 6 ?_
        refine And.intro (fun _ => bad2 hY _ _ _ _ _) (fun c1 => ?_)
        refine And.intro (fun _ => bad2 hY _ _ _ _ _) (fun c2 => ?_)
        have c1 : ¬ nI w < nI 11 := c1
        have c2 : ¬ nI 21 < nI w := c2
        rw [nI_ltI (by omega) (by decide)] at c1
        rw [nI_ltI (by decide) (by omega)] at c2
        omega
      · have g1 : ¬ nI w < nI 11 := by rw [nI_ltI (by omega) (by decide)]; omega
        have g2 : ¬ nI 21 < nI w := by rw [nI_ltI (by decide) (by omega)]; omega
        by_cases w20 : w = 20
        · subst w20
          have hbf : b = false := by
            cases b with
            | false => rfl
            | true => exact absurd (hb18.mp rfl) (by decide)
          subst hbf
          have hw20 : y_wm a m q = 20 := n20.mpr rfl
          by_cases hd : S.2.2.2.1 = 0
          · have hY : Y = .inl (y_fl a m q 2) := by
              rw [hYd]
              unfold y_rst
              rw [if_pos hw20, if_pos hd]
            refine x_wp_ok ok222 [69, 75] 6 ?_
            refine And.intro (fun c => absurd c g1) (fun _ => ?_)
            refine And.intro (fun c => absurd c g2) (fun _ => ?_)
            refine And.intro (fun c => absurd rfl c) (fun _ => ?_)
            refine And.intro (fun c => absurd (show f 500 22 = 0 by rw [s22, hd]; rfl) c) (fun _ => bad2 hY _ _ _ _ _)
          · obtain ⟨s, NL, st, dp, op⟩ := S
            obtain ⟨i1, i2, i3, i4, i5, i6, i7, i8, i9⟩ := hI
            obtain ⟨hR, q1, q2, q3, q4, q5⟩ := hS
            simp only at i1 i2 i3 i4 i5 i6 i7 i8 i9 q1 q2 q3 q4 q5 hd s22 s23 s67 hst hdp hnl
            obtain ⟨k0, hk0⟩ : ∃ k0, k0 = op (dp - 1) := ⟨_, rfl⟩
            have w0 := i5 (dp - 1) (by omega)
            rw [← hk0] at w0
            have hY : Y = y_bd (y_sgn a m 59 (y_nxt a m q)) (fun q2 => .inr ((y_cls s k0 NL, NL + 1, st, dp - 1, op), q2)) := by
              rw [hYd]
              unfold y_rst
              rw [if_pos hw20, if_neg hd]
              show y_bd _ (fun q2 => .inr ((y_cls s (op (dp - 1)) NL, NL + 1, st, dp - 1, op), q2)) = _
              rw [← hk0]
            refine x_wp_ok ok222 [75, 97] 6 ?_
            refine And.intro (fun c => absurd c g1) (fun _ => ?_)
            refine And.intro (fun c => absurd c g2) (fun _ => ?_)
            refine And.intro (fun c => absurd rfl c) (fun _ => ?_)
            refine And.intro (fun _ => ?_) (fun c => absurd (show f 500 22 = 0 from c) (by rw [s22]; exact nI_ne0 (by omega) (by omega)))
            refine x_wp_ok ok222 [97] 6 ?_
            refine And.intro (fun _ => ?_) (fun c => absurd rfl c)
            refine x_wp_ok ok222 [117] 6 ?_
            refine And.intro (fun _ => ?_) (fun c => absurd rfl c)
            refine x_wp_ok ok222 [137] 6 ?_
            refine And.intro (fun c => absurd rfl c) (fun _ => ?_)
            have e23 : f 500 23 + Int32.ofInt 0 = nI st := by rw [s23]; exact nI_add st 0
            show x_J 222 (d + 11) Po 137 [some (.ref 500), some (.int (nI 20)), some (.int (nI NL)), some (.int (nI (1952 + 6 * NL))), some (.int 0), none] [] (x_up f 500 23 (f 500 23 + Int32.ofInt 0), g, x_HR r t, dm, n) 0 0
            rw [e23]
            refine m_stepMid (S := (s, NL, st, dp, op)) (b := 0) (w := 20) (n1 := st) (bo := 0) (show NL < 60 by omega) (by decide) hT (by rw [hs]; decide) ⟨hR, q1, q2, q3, q4, q5⟩ (fun F4 x5 hB => ?_)
            obtain ⟨p1, p2, p3, p4, p5, p6, p7⟩ := hB
            simp only at p5 p6 p7
            have t22 : F4 500 22 = nI dp := (p3 22 (by decide)).trans s22
            have t508 : F4 508 = f 508 := p2 508 (by decide) (by decide)
            refine x_wp_ok ok222 [222] 6 ?_
            refine Exists.intro _ (And.intro m_order20 (And.intro (And.intro (Nat.zero_le _) (Nat.zero_le _)) (fun q h' hpo => ?_)))
            obtain ⟨rfl, rfl⟩ := hpo
            refine And.intro (fun _ => ?_) (fun c => absurd (show (1 : Int32) = 0 from c) (by decide))
            refine And.intro (fun _ => ?_) (fun c => absurd rfl c)
            have em : F4 500 22 - Int32.ofInt 1 = nI (dp - 1) := by rw [t22]; exact pk_sub (b := 1) (by omega)
            have c4 : (nI (dp - 1)).toNatClampNeg = dp - 1 := nI_clamp (by omega)
            have go : F4 508 (dp - 1) = nI k0 := by rw [t508, q4 (dp - 1) (by omega), hk0]
            refine x_wp_ok ok222 [238] 6 ?_
            refine And.intro (fun c => absurd rfl c) (fun _ => ?_)
            show x_J 222 (d + 11) Po 238 [some (.ref 500), some (.int (nI 20)), some (.int (nI NL)), some (.int (nI (1952 + 6 * NL))), some (.int 0), some x5] [] (x_up F4 500 22 (F4 500 22 - Int32.ofInt 1), g, x_HR r t, dm, n) 0 0
            rw [em]
            obtain ⟨F5, hF5⟩ : ∃ F5, F5 = x_up F4 500 22 (nI (dp - 1)) := ⟨_, rfl⟩
            rw [← hF5]
            have g22 : F5 500 22 = nI (dp - 1) := by rw [hF5, x_up_s]
            have g508 : F5 508 = F4 508 := by rw [hF5, x_up_k (by decide)]
            have g501 : F5 501 = F4 501 := by rw [hF5, x_up_k (by decide)]
            have cz : (F5 500 22).toNatClampNeg = dp - 1 := by rw [g22]; exact c4
            have ix4 : nI (1952 + 6 * NL) + Int32.ofInt 4 = nI (1952 + 6 * NL + 4) := nI_add _ 4
            have ik : (Int16.ofInt 1952).toInt32 + (Int8.ofInt 6).toInt32 * F5 508 (dp - 1) + Int32.ofInt 4 = nI (1952 + 6 * k0 + 4) := by
              rw [g508, go, show (Int16.ofInt 1952).toInt32 = nI 1952 from rfl, show (Int8.ofInt 6).toInt32 = nI 6 from rfl, show Int32.ofInt 4 = nI 4 from rfl, pk_mul, nI_add, nI_add]
            refine x_wp_ok ok222 [279] 6 ?_
            refine And.intro (by show x_ix (F5 500 22) 3; rw [g22]; exact x_ix_nI (by omega) (by omega)) ?_
            refine And.intro (by show x_ix (nI (1952 + 6 * NL) + Int32.ofInt 4) 3168; rw [ix4]; exact x_ix_nI (by omega) (by omega)) ?_
            refine And.intro (by show x_ix (F5 500 22) 3; rw [g22]; exact x_ix_nI (by omega) (by omega)) ?_
            refine And.intro (by show x_ix ((Int16.ofInt 1952).toInt32 + (Int8.ofInt 6).toInt32 * F5 508 (F5 500 22).toNatClampNeg + Int32.ofInt 4) 3168; rw [cz, ik]; exact x_ix_nI (by omega) (by omega)) ?_
            have ck : (nI (1952 + 6 * k0 + 4)).toNatClampNeg = 1952 + 6 * k0 + 4 := nI_clamp (by omega)
            have cn : (nI (1952 + 6 * NL + 4)).toNatClampNeg = 1952 + 6 * NL + 4 := nI_clamp (by omega)
            show x_J 222 (d + 11) Po 279 [some (.ref 500), some (.int (nI 20)), some (.int (nI NL)), some (.int (nI (1952 + 6 * NL))), some (.int 0), some x5] [] (x_up (x_up F5 501 (nI (1952 + 6 * NL) + Int32.ofInt 4).toNatClampNeg (F5 508 (F5 500 22).toNatClampNeg)) 501 ((Int16.ofInt 1952).toInt32 + (Int8.ofInt 6).toInt32 * F5 508 (F5 500 22).toNatClampNeg + Int32.ofInt 4).toNatClampNeg (nI NL), g, x_HR r t, dm, n) 0 0
            rw [cz, ik, ix4, ck, cn, g508, go]
            obtain ⟨F6, hF6⟩ : ∃ F6, F6 = x_up (x_up F5 501 (1952 + 6 * NL + 4) (nI k0)) 501 (1952 + 6 * k0 + 4) (nI NL) := ⟨_, rfl⟩
            rw [← hF6]
            have e501 : F6 501 = va_up (va_up (F4 501) (1952 + 6 * NL + 4) (nI k0)) (1952 + 6 * k0 + 4) (nI NL) := by rw [hF6, x_up_c, x_up_c, g501]
            have eo : ∀ c, c ≠ 501 → F6 c = F5 c := fun c hc => by rw [hF6, x_up_k hc, x_up_k hc]
            have hx : x_RMt a m (y_nxt a m q) F6 := by
              rw [hF6]
              refine x_RMt_up (x_RMt_up ?_)
              rw [hF5]
              exact ⟨(x_up_k (by decide)).trans p1.1, p1.2⟩
            refine m_stepFin (S' := (y_cls s k0 NL, NL + 1, st, dp - 1, op)) (q2 := y_nxt a m q) hT hPo ⟨hx, ?_, ?_, ?_, fun i hi => ?_, fun k hk => ?_⟩ ⟨fun c c1 c2 c3 => ?_, fun j hj => ?_, fun j j1 j2 => ?_⟩ hY
            · rw [eo 500 (by decide)]
              exact g22
            · rw [eo 500 (by decide), hF5, x_up_j (by decide)]
              exact p4
            · rw [e501, x_un (by omega), x_un (by omega)]
              exact p5
            · have hi : i < dp - 1 := hi
              rw [eo 508 (by decide), g508, t508]
              exact q4 i (by omega)
            · have hk : k < NL + 1 := hk
              by_cases e : k = NL
              · subst e
                unfold x_lm
                show F6 501 (1952 + 6 * k) = nI (y_om (y_cls s k0 k 0 k)) ∧ (y_cls s k0 k 0 k ≤ 15 → _) ∧ (y_cls s k0 k 0 k = 16 ∨ y_cls s k0 k 0 k = 22 → _) ∧ (18 ≤ y_cls s k0 k 0 k ∧ y_cls s k0 k 0 k ≤ 20 → _) ∧ (17 < y_cls s k0 k 0 k → y_cls s k0 k 0 k ≠ 24 → _ → F6 501 (1952 + 6 * k + 4) = nI (y_cls s k0 k 4 k))
                rw [y_cls_0]
                refine ⟨?_, fun h => absurd h (by decide), fun h => absurd h (by decide), fun h => absurd h (by decide), fun _ _ _ => ?_⟩
                · rw [e501, x_un (by omega), x_un (by omega)]
                  exact p6
                · rw [e501, x_un (by omega), x_us, y_cls_e (by omega)]
              · refine x_lm_cg (S := (s, NL, st, dp, op)) (q5 k (by omega)) (fun j j1 j2 j3 => ?_) (fun c hc => y_cls_n hc (Or.inr e)) (fun h17 h24 hc => ?_)
                · rw [e501, x_un (by omega), x_un (by omega)]
                  exact p7 j (by omega) (by omega)
                · show F6 501 (1952 + 6 * k + 4) = nI (y_cls s k0 NL 4 k)
                  by_cases ek : k = k0
                  · rw [ek, e501, x_us, y_cls_k]
                  · rw [e501, x_un (by omega), x_un (by omega), y_cls_4 ek e, p7 _ (by omega) (by omega)]
                    refine (q5 k (by omega)).2.2.2.2 h17 h24 (fun i hi => ?_)
                    have hi : i < dp := hi
                    show op i ≠ k
                    by_cases ei : i = dp - 1
                    · rw [ei, ← hk0]
                      exact Ne.symm ek
                    · exact hc i (show i < dp - 1 by omega)
            · rw [eo c c2, hF5, x_up_k c1]
              exact p2 c c1 c2
            · rw [eo 500 (by decide), hF5, x_up_j (by omega)]
              exact p3 j (by omega)
            · rw [e501, x_un (by omega), x_un (by omega)]
              exact p7 j j1 (by omega)
        · have hw20 : ¬ y_wm a m q = 20 := by rw [n20]; exact w20
          have c20 : ¬ nI w = nI 20 := by rw [nI_eq (by omega) (by decide)]; exact w20
          refine x_wp_ok ok222 [69, 75] 6 ?_
          refine And.intro (fun c => absurd c g1) (fun _ => ?_)
          refine And.intro (fun c => absurd c g2) (fun _ => ?_)
          refine And.intro (fun _ => ?_) (fun c => absurd c c20)
          by_cases h30 : S.2.2.1 = 30
          · have hY : Y = .inl (y_fl a m q 6) := by
              rw [hYd]
              unfold y_rst
              rw [if_neg hw20, if_neg (by rw [l1, l2]; exact hlo), if_pos h30]
            refine x_wp_ok ok222 [97] 6 ?_
            refine And.intro (fun c => absurd c c20) (fun _ => ?_)
            refine And.intro (fun c => absurd (show f 500 23 = nI 30 by rw [s23, h30]) c) (fun _ => ?_)
            refine Exists.intro _ (And.intro (m_fails (k := 6) hS.1) (And.intro (And.intro (Nat.zero_le _) (Nat.zero_le _)) (fun zq h' hpo => ?_)))
            obtain ⟨rfl, F1, rfl, u1, u2⟩ := hpo
            refine And.intro ?_ ⟨Or.inl rfl, Nat.le_refl _, Nat.le_refl _⟩
            exact fl 6 hY F1 u1 u2
          · have hNL : S.2.1 < 60 := by omega
            refine x_wp_ok ok222 [97] 6 ?_
            refine And.intro (fun c => absurd c c20) (fun _ => ?_)
            refine And.intro (fun _ => ?_) (fun c => absurd (show f 500 23 = nI 30 from c) (by rw [s23, nI_eq (by omega) (by decide)]; exact h30))
            have st117 : ¬ (b = true ∧ S.2.2.2.1 = 3) → x_J 222 (d + 11) Po 117 [some (.ref 500), some (.int (nI w)), some (.int (nI S.2.1)), some (.int (nI (1952 + 6 * S.2.1))), some (.int (x_bo b)), none] [] (f, g, x_HR r t, dm, n) 0 0 := by
              intro hb3
              have hYg : Y = y_bd (y_ordr a m N (v 2 0 0) (v 0 0 0) (v 1 0 0) w (y_nxt a m q)) (fun z => y_bd (y_sgn a m 59 z.2) (fun q2 => .inr ((y_lne S.1 S.2.1 z.1, S.2.1 + 1, S.2.2.1 + 1, if y_wm a m q = 18 ∨ y_wm a m q = 19 then S.2.2.2.1 + 1 else S.2.2.2.1, if y_wm a m q = 18 ∨ y_wm a m q = 19 then va_up S.2.2.2.2 S.2.2.2.1 S.2.1 else S.2.2.2.2), q2))) := by
                rw [hYd]
                unfold y_rst
                rw [if_neg hw20, if_neg (by rw [l1, l2]; exact hlo), if_neg h30, if_neg (fun h => hb3 ⟨hb18.mpr (e18.mp h.1), h.2⟩), ew]
              refine x_wp_ok ok222 [137] 6 ?_
              refine And.intro (fun _ => ?_) (fun c => absurd c c20)
              have e23 : f 500 23 + Int32.ofInt 1 = nI (S.2.2.1 + 1) := by rw [s23, nI_1o]
              show x_J 222 (d + 11) Po 137 [some (.ref 500), some (.int (nI w)), some (.int (nI S.2.1)), some (.int (nI (1952 + 6 * S.2.1))), some (.int (x_bo b)), none] [] (x_up f 500 23 (f 500 23 + Int32.ofInt 1), g, x_HR r t, dm, n) 0 0
              rw [e23]
              refine m_stepMid (b := 0) (n1 := S.2.2.1 + 1) hNL hw25 hT (by rw [hs]; decide) hS (fun F4 x5 hB => ?_)
              have fB := x_fMr_B hNL hB
              obtain ⟨p1, p2, p3, p4, p5, p6, p7⟩ := hB
              have t22 : F4 500 22 = nI S.2.2.2.1 := (p3 22 (by decide)).trans s22
              have t508 : F4 508 = f 508 := p2 508 (by decide) (by decide)
              refine x_wp_ok ok222 [197] 6 ?_
              refine Exists.intro _ (And.intro (m_reignOrder (rr := 1952 + 6 * S.2.1) (v := v) (N := N) (by omega) (by omega) w20 (by omega) (by omega) hT p1 p6 (by rw [p7 0 (by decide) (by omega)]; exact h0) (by rw [p7 1 (by decide) (by omega)]; exact h1) (by rw [p7 2 (by decide) (by omega)]; exact h2) b0 b1 b2 hN) (And.intro (And.intro (Nat.zero_le _) (Nat.zero_le _)) (fun zq h' hpo => ?_)))
              cases e1 : y_ordr a m N (v 2 0 0) (v 0 0 0) (v 1 0 0) w (y_nxt a m q) with
              | inl e =>
                rw [e1] at hpo
                obtain ⟨rfl, F5, rfl, u1, u2⟩ := hpo
                refine And.intro (fun c => absurd rfl c) (fun _ => ?_)
                refine And.intro ?_ ⟨Or.inl rfl, Nat.le_refl _, Nat.le_refl _⟩
                rw [hPo, hYg, e1]
                exact ⟨rfl, F5, rfl, x_fMr_t fB (x_fMr_O (by omega) (by omega) u1), u2⟩
              | inr z =>
                rw [e1] at hpo
                obtain ⟨rfl, F5, rfl, u1, u2, u3⟩ := hpo
                have li := y_ordr_li (by omega) (by omega) w20 hn.2 e1
                rw [e1] at hYg
                have hYs : Y = y_bd (y_sgn a m 59 z.2) (fun q2 => .inr ((y_lne S.1 S.2.1 z.1, S.2.1 + 1, S.2.2.1 + 1, if y_wm a m q = 18 ∨ y_wm a m q = 19 then S.2.2.2.1 + 1 else S.2.2.2.1, if y_wm a m q = 18 ∨ y_wm a m q = 19 then va_up S.2.2.2.2 S.2.2.2.1 S.2.1 else S.2.2.2.2), q2)) := hYg
                have v22 : F5 500 22 = nI S.2.2.2.1 := (u1.2.1 22 (by decide)).trans t22
                have v508 : F5 508 = f 508 := (u1.1 508 (by decide) (by decide)).trans t508
                -- the state behind the order
                have fin : ∀ F6 (dp' : Nat) (op' : Nat → Nat), x_RMt a m z.2 F6 → F6 501 = F5 501 → (∀ j, j ≠ 22 → F6 500 j = F5 500 j) → F6 500 22 = nI dp' → (∀ c, c ≠ 500 → c ≠ 508 → F6 c = F5 c) → (∀ i, i < dp' → F6 508 i = nI (op' i)) → (∀ k, k < S.2.1 → (∀ i, i < dp' → op' i ≠ k) → y_cl S k) → (17 < z.1.1 → z.1.1 ≠ 24 → ∃ i, i < dp' ∧ op' i = S.2.1) → Y = y_bd (y_sgn a m 59 z.2) (fun q2 => .inr ((y_lne S.1 S.2.1 z.1, S.2.1 + 1, S.2.2.1 + 1, dp', op'), q2)) → ∀ x4, x_J 222 (d + 11) Po 222 [some (.ref 500), some (.int (nI w)), some (.int (nI S.2.1)), some (.int (nI (1952 + 6 * S.2.1))), x4, some x5] [] (F6, g, x_HR r t, dm, n) 0 0 := by
                  intro F6 dp' op' hx h501 h500 h22 hco h508 hcl hcn hY6 x4
                  refine x_wp_ok ok222 [279] 6 ?_
                  refine And.intro (fun _ => ?_) (fun c => absurd c c20)
                  refine m_stepFin (S' := (y_lne S.1 S.2.1 z.1, S.2.1 + 1, S.2.2.1 + 1, dp', op')) (q2 := z.2) hT hPo ⟨hx, h22, ?_, ?_, h508, fun k hk => ?_⟩ ⟨fun c c1 c2 c3 => ?_, fun j hj => ?_, fun j j1 j2 => ?_⟩ hY6
                  · rw [h500 23 (by decide), u1.2.1 23 (by decide)]
                    exact p4
                  · rw [h501, u1.2.2 1867 (by omega)]
                    exact p5
                  · have hk : k < S.2.1 + 1 := hk
                    by_cases e : k = S.2.1
                    · subst e
                      unfold x_lm
                      show F6 501 (1952 + 6 * S.2.1) = nI (y_om (y_lne S.1 S.2.1 z.1 0 S.2.1)) ∧ (y_lne S.1 S.2.1 z.1 0 S.2.1 ≤ 15 → F6 501 (1952 + 6 * S.2.1 + 1) = nI (y_lne S.1 S.2.1 z.1 1 S.2.1) ∧ F6 501 (1952 + 6 * S.2.1 + 2) = nI (y_lne S.1 S.2.1 z.1 2 S.2.1) ∧ F6 501 (1952 + 6 * S.2.1 + 3) = nI (y_lne S.1 S.2.1 z.1 3 S.2.1)) ∧ (y_lne S.1 S.2.1 z.1 0 S.2.1 = 16 ∨ y_lne S.1 S.2.1 z.1 0 S.2.1 = 22 → F6 501 (1952 + 6 * S.2.1 + 1) = nI (y_lne S.1 S.2.1 z.1 3 S.2.1)) ∧ (18 ≤ y_lne S.1 S.2.1 z.1 0 S.2.1 ∧ y_lne S.1 S.2.1 z.1 0 S.2.1 ≤ 20 → (y_lne S.1 S.2.1 z.1 0 S.2.1 ≠ 18 → F6 501 (1952 + 6 * S.2.1 + 1) = nI (y_lne S.1 S.2.1 z.1 1 S.2.1)) ∧ F6 501 (1952 + 6 * S.2.1 + 2) = nI (y_lne S.1 S.2.1 z.1 3 S.2.1) ∧ F6 501 (1952 + 6 * S.2.1 + 5) = nI (y_lne S.1 S.2.1 z.1 5 S.2.1)) ∧ (17 < y_lne S.1 S.2.1 z.1 0 S.2.1 → y_lne S.1 S.2.1 z.1 0 S.2.1 ≠ 24 → y_cl (y_lne S.1 S.2.1 z.1, S.2.1 + 1, S.2.2.1 + 1, dp', op') S.2.1 → F6 501 (1952 + 6 * S.2.1 + 4) = nI (y_lne S.1 S.2.1 z.1 4 S.2.1))
                      rw [y_lne_0, y_lne_1, y_lne_2, y_lne_3, y_lne_4, y_lne_5, h501]
                      refine ⟨u3.1, u3.2.1, u3.2.2.1, u3.2.2.2, fun h17 h24 hc => ?_⟩
                      obtain ⟨i, hi, he⟩ := hcn h17 h24
                      exact absurd he (hc i hi)
                    · refine x_lm_cg (hS.2.2.2.2.2 k (by omega)) (fun j j1 j2 j3 => ?_) (fun c _ => y_lne_n e) (fun h17 h24 hc => ?_)
                      · rw [h501, u1.2.2 j (by omega)]
                        exact p7 j (by omega) (by omega)
                      · show F6 501 (1952 + 6 * k + 4) = nI (y_lne S.1 S.2.1 z.1 4 k)
                        rw [y_lne_n e, h501, u1.2.2 _ (by omega), p7 _ (by omega) (by omega)]
                        exact (hS.2.2.2.2.2 k (by omega)).2.2.2.2 h17 h24 (hcl k (by omega) hc)
                  · rw [hco c c1 c3, u1.1 c c1 c2]
                    exact p2 c c1 c2
                  · rw [h500 j (by omega), u1.2.1 j (by omega)]
                    exact p3 j (by omega)
                  · rw [h501, u1.2.2 j (by omega)]
                    exact p7 j j1 (by omega)
                refine And.intro (fun _ => ?_) (fun c => absurd (show (1 : Int32) = 0 from c) (by decide))
                refine x_wp_ok ok222 [222] 6 ?_
                cases hbb : b with
                | false =>
                  have nb : ¬ (w = 18 ∨ w = 19) := fun h => by rw [hb18.mpr h] at hbb; cases hbb
                  rw [if_neg (fun h => nb (e18.mp h)), if_neg (fun h => nb (e18.mp h))] at hYs
                  refine And.intro (fun _ => ?_) (fun c => absurd rfl c)
                  refine fin F5 S.2.2.2.1 S.2.2.2.2 u2 rfl (fun _ _ => rfl) v22 (fun _ _ _ => rfl) (fun i hi => by rw [v508]; exact hS.2.2.2.2.1 i hi) (fun k _ h => h) (fun h17 h24 => ?_) hYs _
                  exfalso
                  have ho : ¬ y_op (y_lne S.1 S.2.1 z.1) S.2.1 := fun h => nb ((li.2.2.1 S.1 S.2.1).mp h)
                  have hl := li.2.1 S.1 S.2.1
                  have h23 := li.2.2.2
                  unfold y_op at ho
                  unfold y_li at hl
                  rw [y_lne_0] at ho hl
                  omega
                | true =>
                  have yb := hb18.mp hbb
                  have d3 : S.2.2.2.1 < 3 := by
                    have : S.2.2.2.1 ≠ 3 := fun e => hb3 ⟨hbb, e⟩
                    omega
                  rw [if_pos (e18.mpr yb), if_pos (e18.mpr yb)] at hYs
                  refine And.intro (fun c => absurd (show (1 : Int32) = 0 from c) (by decide)) (fun _ => ?_)
                  refine And.intro (by show x_ix (F5 500 22) 3; rw [v22]; exact x_ix_nI (by omega) (by omega)) ?_
                  have c4 : (F5 500 22).toNatClampNeg = S.2.2.2.1 := by rw [v22]; exact nI_clamp (by omega)
                  obtain ⟨F6, hF6⟩ : ∃ F6, F6 = x_up (x_up F5 508 S.2.2.2.1 (nI S.2.1)) 500 22 (nI (S.2.2.2.1 + 1)) := ⟨_, rfl⟩
                  have hF6' : F6 = x_up (x_up F5 508 (F5 500 22).toNatClampNeg (nI S.2.1)) 500 22 (F5 500 22 + Int32.ofInt 1) := by rw [hF6, c4, v22, nI_1o]
                  show x_J 222 (d + 11) Po 222 [some (.ref 500), some (.int (nI w)), some (.int (nI S.2.1)), some (.int (nI (1952 + 6 * S.2.1))), some (.int 1), some x5] [] (x_up (x_up F5 508 (F5 500 22).toNatClampNeg (nI S.2.1)) 500 22 (F5 500 22 + Int32.ofInt 1), g, x_HR r t, dm, n) 0 0
                  rw [← hF6']
                  refine fin F6 (S.2.2.2.1 + 1) (va_up S.2.2.2.2 S.2.2.2.1 S.2.1) ?_ ?_ (fun j hj => ?_) ?_ (fun c c1 c2 => ?_) (fun i hi => ?_) (fun k hk h i hi => ?_) (fun _ _ => ⟨S.2.2.2.1, by omega, x_us⟩) hYs _
                  · rw [hF6]
                    exact ⟨(x_up_k (by decide)).trans ((x_up_k (by decide)).trans u2.1), u2.2⟩
                  · rw [hF6, x_up_k (by decide), x_up_k (by decide)]
                  · rw [hF6, x_up_j hj, x_up_k (by decide)]
                  · rw [hF6, x_up_s]
                  · rw [hF6, x_up_k c1, x_up_k c2]
                  · rw [hF6, x_up_k (by decide)]
                    by_cases ei : i = S.2.2.2.1
                    · rw [ei, x_up_s, x_us]
                    · rw [x_up_j ei, x_un ei, v508]
                      exact hS.2.2.2.2.1 i (by omega)
                  · have hi : i < S.2.2.2.1 := hi
                    have := h i (by omega)
                    rw [x_un (by omega)] at this
                    exact this
            refine x_wp_ok ok222 [117] 6 ?_
            cases hbb : b with
            | false =>
              refine And.intro (fun _ => ?_) (fun c => absurd rfl c)
              rw [hbb] at st117
              exact st117 (fun h => by cases h.1)
            | true =>
              rw [hbb] at st117 hb18
              refine And.intro (fun c => absurd (show (1 : Int32) = 0 from c) (by decide)) (fun _ => ?_)
              by_cases h3 : S.2.2.2.1 = 3
              · have hY : Y = .inl (y_fl a m q 7) := by
                  rw [hYd]
                  unfold y_rst
                  rw [if_neg hw20, if_neg (by rw [l1, l2]; exact hlo), if_neg h30, if_pos ⟨e18.mpr (hb18.mp rfl), h3⟩]
                refine And.intro (fun c => absurd (show f 500 22 = nI 3 by rw [s22, h3]) c) (fun _ => ?_)
                refine Exists.intro _ (And.intro (m_fails (k := 7) hS.1) (And.intro (And.intro (Nat.zero_le _) (Nat.zero_le _)) (fun zq h' hpo => ?_)))
                obtain ⟨rfl, F1, rfl, u1, u2⟩ := hpo
                refine And.intro ?_ ⟨Or.inl rfl, Nat.le_refl _, Nat.le_refl _⟩
                exact fl 7 hY F1 u1 u2
              · refine And.intro (fun _ => ?_) (fun c => absurd (show f 500 22 = nI 3 from c) (by rw [s22, nI_eq (by omega) (by decide)]; exact h3))
                exact st117 (fun h => h3 h.2)
    refine x_wp_ok ok222 [44] 6 ?_
    refine And.intro (fun c => ?_) (fun c => ?_)
    · have c : nI w = nI 18 := c
      rw [nI_eq (by omega) (by decide)] at c
      exact st44 true ⟨fun _ => Or.inl c, fun _ => rfl⟩
    · have c : ¬ nI w = nI 18 := c
      rw [nI_eq (by omega) (by decide)] at c
      refine And.intro (fun c2 => ?_) (fun c2 => ?_)
      · have c2 : ¬ nI w = nI 19 := c2
        rw [nI_eq (by omega) (by decide)] at c2
        exact st44 false ⟨fun h => absurd h (by decide), fun h => absurd h (fun h => h.elim c c2)⟩
      · have c2 : nI w = nI 19 := c2
        rw [nI_eq (by omega) (by decide)] at c2
        exact st44 true ⟨fun _ => Or.inr c2, fun _ => rfl⟩
end Ca2
