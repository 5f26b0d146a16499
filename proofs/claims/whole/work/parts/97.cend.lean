/-! steps and ends: the class reads them -/
theorem x_PR_z {T : Nat} {a : Nat → Int32} {m : Nat} {f : Nat → Nat → Int32} {g : Nat → Nat → Int64} {ρ : Nat → Nat → Option Nat} {dm : List Nat} {n : Nat} {Y : xF (xTr × Nat)} {z : Option Value} {h' : xH} (h : x_PR T a m f g ρ dm n Y z h') : ∃ b : Int32, z = some (.int b) := by
  cases Y with
  | inl e => exact ⟨0, h.1⟩
  | inr w => exact ⟨1, h.1⟩
section C97
variable {f : Nat → Nat → Int32} {g : Nat → Nat → Int64} {r t T k : Nat} {dm : List Nat} {n d L : Nat} {v : xV} {a : Nat → Int32} {m q : Nat} {N : Nat → Int64} {S : xTr} {ρ : Nat → Nat → Option Nat} {X : xF (xN5 × Nat)} {Y : xF (xTr × Nat)} {e : Nat × Nat} {F : Nat → Nat → Int32} {G : Nat → Nat → Int64}
theorem x_fR_r : x_fR T f g f g := ⟨fun _ _ _ _ _ => rfl, fun _ _ => rfl⟩
theorem x_fR_t {F2 : Nat → Nat → Int32} {G2 : Nat → Nat → Int64} (h1 : x_fR T f g F G) (h2 : x_fR T F G F2 G2) : x_fR T f g F2 G2 := ⟨fun c c1 c2 c3 c4 => (h2.1 c c1 c2 c3 c4).trans (h1.1 c c1 c2 c3 c4), fun c hc => (h2.2 c hc).trans (h1.2 c hc)⟩
theorem x_fR_10 (h : x_f10 f g F G) : x_fR T f g F G := ⟨fun c c1 _ _ _ => h.1 c c1, h.2⟩
theorem x_fR_k (h : x_fk T k f g F G) : x_fR T f g F G := ⟨fun c c1 _ _ c4 => h.1 c c1 (by omega) (by omega) (by omega), h.2.2⟩
theorem x_fR_up {c i : Nat} {x : Int32} (hc : c = 610 ∨ c = 611 ∨ (T ≤ c ∧ c ≤ T + 6)) : x_fR T f g (x_up f c i x) g := ⟨fun k k1 k2 k3 k4 => x_up_k (fun e => by subst e; rcases hc with h | h | h; exact k2 h; exact k3 h; exact k4 h), fun _ _ => rfl⟩
theorem x_RS_10 {q2 : Nat} (hT : T = 32 ∨ T = 39) (hS : x_RS T a m S q f g) (h : x_f10 f g F G) (hR : x_RC a m q2 F G) : x_RS T a m S q2 F G := by
  obtain ⟨-, h1, h2, h3, h4, h5⟩ := hS
  refine ⟨hR, ?_, ?_, ?_, fun i hi => ?_, fun k hk => ?_⟩
  · rw [h.1 T (by omega)]; exact h1
  · rw [h.1 T (by omega)]; exact h2
  · rw [h.1 610 (by decide)]; exact h3
  · rw [h.1 611 (by decide)]; exact h4 i hi
  · have := h5 k hk
    unfold x_lc at this ⊢
    rw [h.1 (T + 1) (by omega), h.1 (T + 2) (by omega), h.1 (T + 3) (by omega), h.1 (T + 4) (by omega), h.1 (T + 5) (by omega), h.1 (T + 6) (by omega)]
    exact this
theorem c_readEnd_12_32 {P K G' : Nat} (hT : y_TP a m) (hI : y_RI P K G' S) (hS : x_RS 39 a m S q f g) (hw : y_wm a m q = 20) : x_Ct 61 (d + 3) [.ref 610] (f, g, x_HR 12 32, dm, n) (x_PR 39 a m f g (x_HR 12 32) dm n (y_rst a m N P K G' S q)) := by
  obtain ⟨Po, hPo⟩ : ∃ Po : Option Value → xH → Prop, Po = x_PR 39 a m f g (x_HR 12 32) dm n (y_rst a m N P K G' S q) := ⟨_, rfl⟩
  rw [← hPo]
  have hTT : (39 : Nat) = 32 ∨ (39 : Nat) = 39 := by decide
  have hs : y_sa a m q = 1 := y_wm_sa (by rw [hw]; decide)
  obtain ⟨s, NL, st, dp, op⟩ := S
  obtain ⟨i1, i2, i3, i4, i5, i6, i7, i8, i9⟩ := hI
  obtain ⟨hR, e1, e2, e4, e5, e6⟩ := hS
  simp only at i1 i2 i3 i4 i5 i6 i7 i8 i9 e1 e2 e4 e5 e6
  by_cases hd : dp = 0
  · have hY : y_rst a m N P K G' (s, NL, st, dp, op) q = .inl (y_fl a m q 2) := by
      unfold y_rst
      rw [if_pos hw, if_pos hd]
    refine x_Ct_w (by decide) (Nat.le_of_ble_eq_true rfl) ok61 [46] 6 ?_
    refine And.intro (fun _ => ?_) (fun c => absurd (show f 610 4 ≤ 0 by rw [e4, hd]; decide) c)
    refine Exists.intro _ (And.intro (c_fail (k := 2) hR) (And.intro (And.intro (Nat.zero_le _) (Nat.zero_le _)) (fun zq h' hpo => ?_)))
    obtain ⟨rfl, F1, rfl, u1, u2⟩ := hpo
    refine And.intro ?_ ⟨Or.inl rfl, Nat.le_refl _, Nat.le_refl _⟩
    rw [hPo, hY]
    exact ⟨rfl, F1, g, rfl, x_fR_10 u1, u2⟩
  · obtain ⟨k0, hk0⟩ : ∃ k0, k0 = op (dp - 1) := ⟨_, rfl⟩
    have w0 := i5 (dp - 1) (by omega)
    rw [← hk0] at w0
    have hY : y_rst a m N P K G' (s, NL, st, dp, op) q = y_bd (y_sgn a m 59 (y_nxt a m q)) (fun q2 => .inr ((y_cls s k0 NL, NL + 1, st, dp - 1, op), q2)) := by
      unfold y_rst
      rw [if_pos hw, if_neg hd]
      show y_bd _ (fun q2 => .inr ((y_cls s (op (dp - 1)) NL, NL + 1, st, dp - 1, op), q2)) = _
      rw [← hk0]
    have em : f 610 4 - Int32.ofInt 1 = nI (dp - 1) := by rw [e4]; exact pk_sub (b := 1) (by omega)
    refine x_Ct_w (by decide) (Nat.le_of_ble_eq_true rfl) ok61 [46] 6 ?_
    refine And.intro (fun c => absurd (show f 610 4 ≤ 0 from c) (by rw [e4]; exact nI_nle (by omega) (by omega))) (fun _ => ?_)
    refine And.intro (fun _ => ?_) (fun c => absurd (show f 39 2 < nI 60 by rw [e2]; exact nI_lt (by omega) (by decide)) c)
    show x_J 61 (d + 3) Po 46 [some (.ref 610), some (.int (f 39 2))] [] (x_up f 610 4 (f 610 4 - Int32.ofInt 1), g, x_HR 12 32, dm, n) 0 0
    rw [e2, em]
    obtain ⟨F1, hF1⟩ : ∃ F1, F1 = x_up f 610 4 (nI (dp - 1)) := ⟨_, rfl⟩
    rw [← hF1]
    have g4 : F1 610 4 = nI (dp - 1) := by rw [hF1]; exact x_up_s _ _ _ _
    have g1 : ∀ c, c ≠ 610 → F1 c = f c := fun c hc => by rw [hF1]; exact x_up_k hc
    have go : F1 611 (dp - 1) = nI k0 := by rw [g1 611 (by decide), e5 (dp - 1) (by omega), hk0]
    have c4 : (F1 610 4).toNatClampNeg = dp - 1 := by rw [g4]; exact nI_clamp (by omega)
    refine x_wp_ok ok61 [93] 6 ?_
    refine And.intro (x_ix_nI (by omega) (by omega)) ?_
    refine And.intro (by show x_ix (F1 610 4) 3; rw [g4]; exact x_ix_nI (by omega) (by omega)) ?_
    refine And.intro (x_ix_nI (by omega) (by omega)) ?_
    refine And.intro (by show x_ix (F1 610 4) 3; rw [g4]; exact x_ix_nI (by omega) (by omega)) ?_
    refine And.intro (by show x_ix (F1 611 (F1 610 4).toNatClampNeg) 60; rw [c4, go]; exact x_ix_nI (by omega) (by omega)) ?_
    have cN : (nI NL).toNatClampNeg = NL := nI_clamp (by omega)
    have ck : (nI k0).toNatClampNeg = k0 := nI_clamp (by omega)
    show x_J 61 (d + 3) Po 93 [some (.ref 610), some (.int (nI NL))] [] (x_up (x_up (x_up F1 40 (nI NL).toNatClampNeg 23) 45 (nI NL).toNatClampNeg (F1 611 (F1 610 4).toNatClampNeg)) 45 (F1 611 (F1 610 4).toNatClampNeg).toNatClampNeg (nI NL), g, x_HR 12 32, dm, n) 0 0
    rw [c4, go, cN, ck]
    obtain ⟨F2, hF2⟩ : ∃ F2, F2 = x_up (x_up (x_up F1 40 NL 23) 45 NL (nI k0)) 45 k0 (nI NL) := ⟨_, rfl⟩
    rw [← hF2]
    have t2 : F2 39 2 = nI NL := by rw [hF2, x_up_k (by decide), x_up_k (by decide), x_up_k (by decide), g1 _ (by decide)]; exact e2
    have r2 : x_RC a m q (x_up F2 39 2 (F2 39 2 + Int32.ofInt 1)) g := by
      refine x_RC_up (by decide) ?_
      rw [hF2]
      refine x_RC_up (by decide) (x_RC_up (by decide) (x_RC_up (by decide) ?_))
      rw [hF1]
      exact x_RC_up (by decide) hR
    refine x_wp_ok ok61 [] 6 ?_
    refine Exists.intro _ (And.intro (c_adv hT r2 (by rw [hs]; decide) (by rw [hs]; decide)) (And.intro (And.intro (Nat.zero_le _) (Nat.zero_le _)) (fun zq h' hpo => ?_)))
    obtain ⟨rfl, F3, G3, rfl, u1, -, u3⟩ := hpo
    have hfr : x_fR 39 f g (x_up F2 39 2 (F2 39 2 + Int32.ofInt 1)) g := by
      refine x_fR_t ?_ (x_fR_up (Or.inr (Or.inr (by decide))))
      rw [hF2]
      refine x_fR_t ?_ (x_fR_t (x_fR_up (Or.inr (Or.inr (by decide)))) (x_fR_t (x_fR_up (Or.inr (Or.inr (by decide)))) (x_fR_up (Or.inr (Or.inr (by decide))))))
      rw [hF1]
      exact x_fR_up (Or.inl rfl)
    have st2 : x_RS 39 a m (y_cls s k0 NL, NL + 1, st, dp - 1, op) q (x_up F2 39 2 (F2 39 2 + Int32.ofInt 1)) g := by
      refine ⟨r2, ?_, ?_, ?_, fun i hi => ?_, fun k hk => ?_⟩
      · rw [x_up_j (by decide), hF2, x_up_k (by decide), x_up_k (by decide), x_up_k (by decide), g1 _ (by decide)]
        exact e1
      · rw [x_up_s, t2, nI_1o]
      · rw [x_up_k (by decide), hF2, x_up_k (by decide), x_up_k (by decide), x_up_k (by decide)]
        exact g4
      · have hi : i < dp - 1 := hi
        rw [x_up_k (by decide), hF2, x_up_k (by decide), x_up_k (by decide), x_up_k (by decide), g1 _ (by decide)]
        exact e5 i (by omega)
      · have hk : k < NL + 1 := hk
        have c1 : (x_up F2 39 2 (F2 39 2 + Int32.ofInt 1)) 40 = va_up (f 40) NL 23 := by rw [x_up_k (by decide), hF2, x_up_k (by decide), x_up_k (by decide), x_up_c, g1 _ (by decide)]
        have c6 : (x_up F2 39 2 (F2 39 2 + Int32.ofInt 1)) 45 = va_up (va_up (f 45) NL (nI k0)) k0 (nI NL) := by rw [x_up_k (by decide), hF2, x_up_c, x_up_c, x_up_k (by decide), g1 _ (by decide)]
        have co : ∀ c, c = 41 ∨ c = 42 ∨ c = 43 ∨ c = 44 → (x_up F2 39 2 (F2 39 2 + Int32.ofInt 1)) c = f c := by
          intro c hc
          rw [x_up_k (by omega), hF2, x_up_k (by omega), x_up_k (by omega), x_up_k (by omega), g1 _ (by omega)]
        show (x_up F2 39 2 (F2 39 2 + Int32.ofInt 1)) 40 k = nI (y_wd (y_cls s k0 NL 0 k)) ∧ (y_cls s k0 NL 0 k ≤ 15 → (x_up F2 39 2 (F2 39 2 + Int32.ofInt 1)) 41 k = nI (y_cls s k0 NL 1 k) ∧ (x_up F2 39 2 (F2 39 2 + Int32.ofInt 1)) 42 k = nI (y_cls s k0 NL 2 k)) ∧ (18 ≤ y_cls s k0 NL 0 k ∧ y_cls s k0 NL 0 k ≤ 20 → (x_up F2 39 2 (F2 39 2 + Int32.ofInt 1)) 41 k = nI (y_cls s k0 NL 0 k + 1) ∧ (y_cls s k0 NL 0 k ≠ 18 → (x_up F2 39 2 (F2 39 2 + Int32.ofInt 1)) 42 k = nI (y_cls s k0 NL 1 k)) ∧ (x_up F2 39 2 (F2 39 2 + Int32.ofInt 1)) 44 k = nI (y_cls s k0 NL 5 k)) ∧ (y_cls s k0 NL 0 k ≠ 17 → y_cls s k0 NL 0 k ≠ 23 → y_cls s k0 NL 0 k ≠ 24 → (x_up F2 39 2 (F2 39 2 + Int32.ofInt 1)) 43 k = nI (y_cls s k0 NL 3 k)) ∧ (17 < y_cls s k0 NL 0 k → y_cls s k0 NL 0 k ≠ 24 → y_cl (y_cls s k0 NL, NL + 1, st, dp - 1, op) k → (x_up F2 39 2 (F2 39 2 + Int32.ofInt 1)) 45 k = nI (y_cls s k0 NL 4 k))
        rw [c1, c6, co _ (Or.inl rfl), co _ (Or.inr (Or.inl rfl)), co _ (Or.inr (Or.inr (Or.inl rfl))), co _ (Or.inr (Or.inr (Or.inr rfl)))]
        by_cases e : k = NL
        · rw [e, y_cls_0, x_us]
          refine ⟨rfl, fun h => absurd h (by decide), fun h => absurd h.2 (by decide), fun _ h => absurd rfl h, fun _ _ _ => ?_⟩
          rw [x_un (by omega), x_us, y_cls_e (by omega)]
        · obtain ⟨l1, l2, l3, l4, l6⟩ := e6 k (by omega)
          have s0 : ∀ c, c ≠ 4 → y_cls s k0 NL c k = s c k := fun c hc => y_cls_n hc (Or.inr e)
          rw [s0 0 (by decide), s0 1 (by decide), s0 2 (by decide), s0 3 (by decide), s0 5 (by decide), x_un e]
          refine ⟨l1, l2, l3, l4, fun h1 h2 hc => ?_⟩
          by_cases ek : k = k0
          · rw [ek, x_us, y_cls_k]
          · rw [x_un ek, x_un e, y_cls_4 ek e]
            refine l6 h1 h2 (fun i hi => ?_)
            have hi : i < dp := hi
            show op i ≠ k
            by_cases ei : i = dp - 1
            · rw [ei, ← hk0]
              exact Ne.symm ek
            · exact hc i (show i < dp - 1 by omega)
    refine Exists.intro _ (And.intro (c_takeSign (c := 59) hT u3 (by decide) (by decide)) (And.intro (And.intro (Nat.zero_le _) (Nat.zero_le _)) (fun zq h' hpo => ?_)))
    cases e7 : y_sgn a m 59 (y_nxt a m q) with
    | inl e =>
      obtain ⟨rfl, F4, G4, rfl, p1, p2⟩ := x_PT_l e7 hpo
      refine And.intro ?_ ⟨Or.inl rfl, Nat.le_refl _, Nat.le_refl _⟩
      rw [hPo, hY, e7]
      exact ⟨rfl, F4, G4, rfl, x_fR_t hfr (x_fR_t (x_fR_10 u1) (x_fR_10 p1)), p2⟩
    | inr q5 =>
      obtain ⟨rfl, F4, G4, rfl, p1, p2⟩ := x_PT_r e7 hpo
      refine And.intro ?_ ⟨Or.inr rfl, Nat.le_refl _, Nat.le_refl _⟩
      rw [hPo, hY, e7]
      exact ⟨rfl, F4, G4, rfl, x_fR_t hfr (x_fR_t (x_fR_10 u1) (x_fR_10 p1)), x_RS_10 hTT (x_RS_10 hTT st2 u1 u3) p1 p2.1⟩
theorem c_stepFin_12_32 {z : xN5 × Nat} {dp' : Nat} {op' : Nat → Nat} {cw x2 : Int32} {Po : Option Value → xH → Prop} (hT : y_TP a m) (hNL : S.2.1 < 60) (hPo : Po = x_PR 39 a m f g (x_HR 12 32) dm n Y) (hS : x_RS 39 a m S q f g) (hA : x_fR 39 f g F G) (hB1 : F 39 1 = nI (S.2.2.1 + 1)) (hB2 : F 39 2 = nI (S.2.1 + 1)) (hB3 : F 610 4 = nI dp') (hB4 : ∀ i, i < dp' → F 611 i = nI (op' i)) (hC : ∀ c, 40 ≤ c → c ≤ 45 → ∀ k, k ≠ S.2.1 → F c k = f c k) (hD : F 40 S.2.1 = nI (y_wd z.1.1)) (hE : x_RC a m z.2 F G) (hO : x_od 39 S.2.1 z.1 F) (hn : z.1.1 ≠ 23) (hcl : ∀ k, k < S.2.1 → (∀ i, i < dp' → op' i ≠ k) → y_cl S k) (hcn : 17 < z.1.1 → z.1.1 ≠ 24 → ∃ i, i < dp' ∧ op' i = S.2.1) (hY : Y = y_bd (y_sgn a m 59 z.2) (fun q2 => .inr ((y_lne S.1 S.2.1 z.1, S.2.1 + 1, S.2.2.1 + 1, dp', op'), q2))) : x_J 62 (d + 4) Po 254 [some (.ref 610), some (.int cw), some (.int x2), some (.int (nI S.2.1)), some (.int 1)] [] (F, G, x_HR 12 32, dm, n) 0 0 := by
  have hTT : (39 : Nat) = 32 ∨ (39 : Nat) = 39 := by decide
  refine x_wp_ok ok62 [] 6 ?_
  refine And.intro (x_ix_nI (by omega) (by omega)) ?_
  rw [nI_clamp (by omega)]
  refine And.intro (fun c => absurd (show (1 : Int32) = 0 from c) (by decide)) (fun _ => ?_)
  have r5 : x_RC a m z.2 (x_up F 43 S.2.1 (F 10 9)) G := x_RC_up (by decide) hE
  have f5 : x_fR 39 f g (x_up F 43 S.2.1 (F 10 9)) G := x_fR_t hA (x_fR_up (Or.inr (Or.inr (by decide))))
  have st2 : x_RS 39 a m (y_lne S.1 S.2.1 z.1, S.2.1 + 1, S.2.2.1 + 1, dp', op') z.2 (x_up F 43 S.2.1 (F 10 9)) G := by
    refine ⟨r5, ?_, ?_, ?_, fun i hi => ?_, fun k hk => ?_⟩
    · rw [x_up_k (by decide)]; exact hB1
    · rw [x_up_k (by decide)]; exact hB2
    · rw [x_up_k (by decide)]; exact hB3
    · rw [x_up_k (by decide)]; exact hB4 i hi
    · have hk : k < S.2.1 + 1 := hk
      have c4 : (x_up F 43 S.2.1 (F 10 9)) 43 = va_up (F 43) S.2.1 (F 10 9) := x_up_c
      have co : ∀ c, c ≠ 43 → (x_up F 43 S.2.1 (F 10 9)) c = F c := fun c hc => x_up_k hc
      unfold x_lc
      show (x_up F 43 S.2.1 (F 10 9)) 40 k = nI (y_wd (y_lne S.1 S.2.1 z.1 0 k)) ∧ (y_lne S.1 S.2.1 z.1 0 k ≤ 15 → (x_up F 43 S.2.1 (F 10 9)) 41 k = nI (y_lne S.1 S.2.1 z.1 1 k) ∧ (x_up F 43 S.2.1 (F 10 9)) 42 k = nI (y_lne S.1 S.2.1 z.1 2 k)) ∧ (18 ≤ y_lne S.1 S.2.1 z.1 0 k ∧ y_lne S.1 S.2.1 z.1 0 k ≤ 20 → (x_up F 43 S.2.1 (F 10 9)) 41 k = nI (y_lne S.1 S.2.1 z.1 0 k + 1) ∧ (y_lne S.1 S.2.1 z.1 0 k ≠ 18 → (x_up F 43 S.2.1 (F 10 9)) 42 k = nI (y_lne S.1 S.2.1 z.1 1 k)) ∧ (x_up F 43 S.2.1 (F 10 9)) 44 k = nI (y_lne S.1 S.2.1 z.1 5 k)) ∧ (y_lne S.1 S.2.1 z.1 0 k ≠ 17 → y_lne S.1 S.2.1 z.1 0 k ≠ 23 → y_lne S.1 S.2.1 z.1 0 k ≠ 24 → (x_up F 43 S.2.1 (F 10 9)) 43 k = nI (y_lne S.1 S.2.1 z.1 3 k)) ∧ (17 < y_lne S.1 S.2.1 z.1 0 k → y_lne S.1 S.2.1 z.1 0 k ≠ 24 → y_cl (y_lne S.1 S.2.1 z.1, S.2.1 + 1, S.2.2.1 + 1, dp', op') k → (x_up F 43 S.2.1 (F 10 9)) 45 k = nI (y_lne S.1 S.2.1 z.1 4 k))
      rw [c4, co 40 (by decide), co 41 (by decide), co 42 (by decide), co 44 (by decide), co 45 (by decide)]
      by_cases e : k = S.2.1
      · rw [e, y_lne_0, y_lne_1, y_lne_2, y_lne_3, y_lne_4, y_lne_5, x_us]
        refine ⟨hD, hO.1, hO.2.1, fun h17 _ h24 => hO.2.2 h17 h24, fun h17 h24 hc => ?_⟩
        obtain ⟨i, hi, he⟩ := hcn h17 h24
        exact absurd he (hc i hi)
      · have s0 : ∀ c, y_lne S.1 S.2.1 z.1 c k = S.1 c k := fun c => y_lne_n e
        rw [s0 0, s0 1, s0 2, s0 3, s0 4, s0 5, x_un e, hC 40 (by decide) (by decide) k e, hC 41 (by decide) (by decide) k e, hC 42 (by decide) (by decide) k e, hC 43 (by decide) (by decide) k e, hC 44 (by decide) (by decide) k e, hC 45 (by decide) (by decide) k e]
        obtain ⟨l1, l2, l3, l4, l6⟩ := hS.2.2.2.2.2 k (by omega)
        exact ⟨l1, l2, l3, l4, fun h1 h2 hc => l6 h1 h2 (hcl k (by omega) hc)⟩
  refine Exists.intro _ (And.intro (c_takeSign (c := 59) hT r5 (by decide) (by decide)) (And.intro (And.intro (Nat.zero_le _) (Nat.zero_le _)) (fun zq h' hpo => ?_)))
  cases e7 : y_sgn a m 59 z.2 with
  | inl e =>
    obtain ⟨rfl, F4, G4, rfl, p1, p2⟩ := x_PT_l e7 hpo
    refine And.intro (fun _ => ?_) (fun c => absurd rfl c)
    refine And.intro ?_ ⟨Or.inl rfl, Nat.le_refl _, Nat.le_refl _⟩
    rw [hPo, hY, e7]
    exact ⟨rfl, F4, G4, rfl, x_fR_t f5 (x_fR_10 p1), p2⟩
  | inr q5 =>
    obtain ⟨rfl, F4, G4, rfl, p1, p2⟩ := x_PT_r e7 hpo
    refine And.intro (fun c => absurd (show (1 : Int32) = 0 from c) (by decide)) (fun _ => ?_)
    refine And.intro ?_ ⟨Or.inr rfl, Nat.le_refl _, Nat.le_refl _⟩
    rw [hPo, hY, e7]
    exact ⟨rfl, F4, G4, rfl, x_fR_t f5 (x_fR_10 p1), x_RS_10 hTT st2 p1 p2.1⟩
theorem c_stepNo_12_32 {NL : Nat} {cw x2 : Int32} {Po : Option Value → xH → Prop} (hNL : NL < 60) (hPo : Po = x_PR 39 a m f g (x_HR 12 32) dm n Y) (hA : x_fR 39 f g F G) (he : x_FL F e) (hY : Y = .inl e) : x_J 62 (d + 4) Po 254 [some (.ref 610), some (.int cw), some (.int x2), some (.int (nI NL)), some (.int 0)] [] (F, G, x_HR 12 32, dm, n) 0 0 := by
  refine x_wp_ok ok62 [] 6 ?_
  refine And.intro (x_ix_nI (by omega) (by omega)) ?_
  rw [nI_clamp (by omega)]
  refine And.intro (fun _ => ?_) (fun c => absurd rfl c)
  refine And.intro ?_ ⟨Or.inl rfl, Nat.le_refl _, Nat.le_refl _⟩
  rw [hPo, hY]
  exact ⟨rfl, _, G, rfl, x_fR_t hA (x_fR_up (Or.inr (Or.inr (by decide)))), he⟩
theorem c_readEnd_12_39 {P K G' : Nat} (hT : y_TP a m) (hI : y_RI P K G' S) (hS : x_RS 32 a m S q f g) (hw : y_wm a m q = 20) : x_Ct 61 (d + 3) [.ref 610] (f, g, x_HR 12 39, dm, n) (x_PR 32 a m f g (x_HR 12 39) dm n (y_rst a m N P K G' S q)) := by
  obtain ⟨Po, hPo⟩ : ∃ Po : Option Value → xH → Prop, Po = x_PR 32 a m f g (x_HR 12 39) dm n (y_rst a m N P K G' S q) := ⟨_, rfl⟩
  rw [← hPo]
  have hTT : (32 : Nat) = 32 ∨ (32 : Nat) = 39 := by decide
  have hs : y_sa a m q = 1 := y_wm_sa (by rw [hw]; decide)
  obtain ⟨s, NL, st, dp, op⟩ := S
  obtain ⟨i1, i2, i3, i4, i5, i6, i7, i8, i9⟩ := hI
  obtain ⟨hR, e1, e2, e4, e5, e6⟩ := hS
  simp only at i1 i2 i3 i4 i5 i6 i7 i8 i9 e1 e2 e4 e5 e6
  by_cases hd : dp = 0
  · have hY : y_rst a m N P K G' (s, NL, st, dp, op) q = .inl (y_fl a m q 2) := by
      unfold y_rst
      rw [if_pos hw, if_pos hd]
    refine x_Ct_w (by decide) (Nat.le_of_ble_eq_true rfl) ok61 [46] 6 ?_
    refine And.intro (fun _ => ?_) (fun c => absurd (show f 610 4 ≤ 0 by rw [e4, hd]; decide) c)
    refine Exists.intro _ (And.intro (c_fail (k := 2) hR) (And.intro (And.intro (Nat.zero_le _) (Nat.zero_le _)) (fun zq h' hpo => ?_)))
    obtain ⟨rfl, F1, rfl, u1, u2⟩ := hpo
    refine And.intro ?_ ⟨Or.inl rfl, Nat.le_refl _, Nat.le_refl _⟩
    rw [hPo, hY]
    exact ⟨rfl, F1, g, rfl, x_fR_10 u1, u2⟩
  · obtain ⟨k0, hk0⟩ : ∃ k0, k0 = op (dp - 1) := ⟨_, rfl⟩
    have w0 := i5 (dp - 1) (by omega)
    rw [← hk0] at w0
    have hY : y_rst a m N P K G' (s, NL, st, dp, op) q = y_bd (y_sgn a m 59 (y_nxt a m q)) (fun q2 => .inr ((y_cls s k0 NL, NL + 1, st, dp - 1, op), q2)) := by
      unfold y_rst
      rw [if_pos hw, if_neg hd]
      show y_bd _ (fun q2 => .inr ((y_cls s (op (dp - 1)) NL, NL + 1, st, dp - 1, op), q2)) = _
      rw [← hk0]
    have em : f 610 4 - Int32.ofInt 1 = nI (dp - 1) := by rw [e4]; exact pk_sub (b := 1) (by omega)
    refine x_Ct_w (by decide) (Nat.le_of_ble_eq_true rfl) ok61 [46] 6 ?_
    refine And.intro (fun c => absurd (show f 610 4 ≤ 0 from c) (by rw [e4]; exact nI_nle (by omega) (by omega))) (fun _ => ?_)
    refine And.intro (fun _ => ?_) (fun c => absurd (show f 32 2 < nI 60 by rw [e2]; exact nI_lt (by omega) (by decide)) c)
    show x_J 61 (d + 3) Po 46 [some (.ref 610), some (.int (f 32 2))] [] (x_up f 610 4 (f 610 4 - Int32.ofInt 1), g, x_HR 12 39, dm, n) 0 0
    rw [e2, em]
    obtain ⟨F1, hF1⟩ : ∃ F1, F1 = x_up f 610 4 (nI (dp - 1)) := ⟨_, rfl⟩
    rw [← hF1]
    have g4 : F1 610 4 = nI (dp - 1) := by rw [hF1]; exact x_up_s _ _ _ _
    have g1 : ∀ c, c ≠ 610 → F1 c = f c := fun c hc => by rw [hF1]; exact x_up_k hc
    have go : F1 611 (dp - 1) = nI k0 := by rw [g1 611 (by decide), e5 (dp - 1) (by omega), hk0]
    have c4 : (F1 610 4).toNatClampNeg = dp - 1 := by rw [g4]; exact nI_clamp (by omega)
    refine x_wp_ok ok61 [93] 6 ?_
    refine And.intro (x_ix_nI (by omega) (by omega)) ?_
    refine And.intro (by show x_ix (F1 610 4) 3; rw [g4]; exact x_ix_nI (by omega) (by omega)) ?_
    refine And.intro (x_ix_nI (by omega) (by omega)) ?_
    refine And.intro (by show x_ix (F1 610 4) 3; rw [g4]; exact x_ix_nI (by omega) (by omega)) ?_
    refine And.intro (by show x_ix (F1 611 (F1 610 4).toNatClampNeg) 60; rw [c4, go]; exact x_ix_nI (by omega) (by omega)) ?_
    have cN : (nI NL).toNatClampNeg = NL := nI_clamp (by omega)
    have ck : (nI k0).toNatClampNeg = k0 := nI_clamp (by omega)
    show x_J 61 (d + 3) Po 93 [some (.ref 610), some (.int (nI NL))] [] (x_up (x_up (x_up F1 33 (nI NL).toNatClampNeg 23) 38 (nI NL).toNatClampNeg (F1 611 (F1 610 4).toNatClampNeg)) 38 (F1 611 (F1 610 4).toNatClampNeg).toNatClampNeg (nI NL), g, x_HR 12 39, dm, n) 0 0
    rw [c4, go, cN, ck]
    obtain ⟨F2, hF2⟩ : ∃ F2, F2 = x_up (x_up (x_up F1 33 NL 23) 38 NL (nI k0)) 38 k0 (nI NL) := ⟨_, rfl⟩
    rw [← hF2]
    have t2 : F2 32 2 = nI NL := by rw [hF2, x_up_k (by decide), x_up_k (by decide), x_up_k (by decide), g1 _ (by decide)]; exact e2
    have r2 : x_RC a m q (x_up F2 32 2 (F2 32 2 + Int32.ofInt 1)) g := by
      refine x_RC_up (by decide) ?_
      rw [hF2]
      refine x_RC_up (by decide) (x_RC_up (by decide) (x_RC_up (by decide) ?_))
      rw [hF1]
      exact x_RC_up (by decide) hR
    refine x_wp_ok ok61 [] 6 ?_
    refine Exists.intro _ (And.intro (c_adv hT r2 (by rw [hs]; decide) (by rw [hs]; decide)) (And.intro (And.intro (Nat.zero_le _) (Nat.zero_le _)) (fun zq h' hpo => ?_)))
    obtain ⟨rfl, F3, G3, rfl, u1, -, u3⟩ := hpo
    have hfr : x_fR 32 f g (x_up F2 32 2 (F2 32 2 + Int32.ofInt 1)) g := by
      refine x_fR_t ?_ (x_fR_up (Or.inr (Or.inr (by decide))))
      rw [hF2]
      refine x_fR_t ?_ (x_fR_t (x_fR_up (Or.inr (Or.inr (by decide)))) (x_fR_t (x_fR_up (Or.inr (Or.inr (by decide)))) (x_fR_up (Or.inr (Or.inr (by decide))))))
      rw [hF1]
      exact x_fR_up (Or.inl rfl)
    have st2 : x_RS 32 a m (y_cls s k0 NL, NL + 1, st, dp - 1, op) q (x_up F2 32 2 (F2 32 2 + Int32.ofInt 1)) g := by
      refine ⟨r2, ?_, ?_, ?_, fun i hi => ?_, fun k hk => ?_⟩
      · rw [x_up_j (by decide), hF2, x_up_k (by decide), x_up_k (by decide), x_up_k (by decide), g1 _ (by decide)]
        exact e1
      · rw [x_up_s, t2, nI_1o]
      · rw [x_up_k (by decide), hF2, x_up_k (by decide), x_up_k (by decide), x_up_k (by decide)]
        exact g4
      · have hi : i < dp - 1 := hi
        rw [x_up_k (by decide), hF2, x_up_k (by decide), x_up_k (by decide), x_up_k (by decide), g1 _ (by decide)]
        exact e5 i (by omega)
      · have hk : k < NL + 1 := hk
        have c1 : (x_up F2 32 2 (F2 32 2 + Int32.ofInt 1)) 33 = va_up (f 33) NL 23 := by rw [x_up_k (by decide), hF2, x_up_k (by decide), x_up_k (by decide), x_up_c, g1 _ (by decide)]
        have c6 : (x_up F2 32 2 (F2 32 2 + Int32.ofInt 1)) 38 = va_up (va_up (f 38) NL (nI k0)) k0 (nI NL) := by rw [x_up_k (by decide), hF2, x_up_c, x_up_c, x_up_k (by decide), g1 _ (by decide)]
        have co : ∀ c, c = 34 ∨ c = 35 ∨ c = 36 ∨ c = 37 → (x_up F2 32 2 (F2 32 2 + Int32.ofInt 1)) c = f c := by
          intro c hc
          rw [x_up_k (by omega), hF2, x_up_k (by omega), x_up_k (by omega), x_up_k (by omega), g1 _ (by omega)]
        show (x_up F2 32 2 (F2 32 2 + Int32.ofInt 1)) 33 k = nI (y_wd (y_cls s k0 NL 0 k)) ∧ (y_cls s k0 NL 0 k ≤ 15 → (x_up F2 32 2 (F2 32 2 + Int32.ofInt 1)) 34 k = nI (y_cls s k0 NL 1 k) ∧ (x_up F2 32 2 (F2 32 2 + Int32.ofInt 1)) 35 k = nI (y_cls s k0 NL 2 k)) ∧ (18 ≤ y_cls s k0 NL 0 k ∧ y_cls s k0 NL 0 k ≤ 20 → (x_up F2 32 2 (F2 32 2 + Int32.ofInt 1)) 34 k = nI (y_cls s k0 NL 0 k + 1) ∧ (y_cls s k0 NL 0 k ≠ 18 → (x_up F2 32 2 (F2 32 2 + Int32.ofInt 1)) 35 k = nI (y_cls s k0 NL 1 k)) ∧ (x_up F2 32 2 (F2 32 2 + Int32.ofInt 1)) 37 k = nI (y_cls s k0 NL 5 k)) ∧ (y_cls s k0 NL 0 k ≠ 17 → y_cls s k0 NL 0 k ≠ 23 → y_cls s k0 NL 0 k ≠ 24 → (x_up F2 32 2 (F2 32 2 + Int32.ofInt 1)) 36 k = nI (y_cls s k0 NL 3 k)) ∧ (17 < y_cls s k0 NL 0 k → y_cls s k0 NL 0 k ≠ 24 → y_cl (y_cls s k0 NL, NL + 1, st, dp - 1, op) k → (x_up F2 32 2 (F2 32 2 + Int32.ofInt 1)) 38 k = nI (y_cls s k0 NL 4 k))
        rw [c1, c6, co _ (Or.inl rfl), co _ (Or.inr (Or.inl rfl)), co _ (Or.inr (Or.inr (Or.inl rfl))), co _ (Or.inr (Or.inr (Or.inr rfl)))]
        by_cases e : k = NL
        · rw [e, y_cls_0, x_us]
          refine ⟨rfl, fun h => absurd h (by decide), fun h => absurd h.2 (by decide), fun _ h => absurd rfl h, fun _ _ _ => ?_⟩
          rw [x_un (by omega), x_us, y_cls_e (by omega)]
        · obtain ⟨l1, l2, l3, l4, l6⟩ := e6 k (by omega)
          have s0 : ∀ c, c ≠ 4 → y_cls s k0 NL c k = s c k := fun c hc => y_cls_n hc (Or.inr e)
          rw [s0 0 (by decide), s0 1 (by decide), s0 2 (by decide), s0 3 (by decide), s0 5 (by decide), x_un e]
          refine ⟨l1, l2, l3, l4, fun h1 h2 hc => ?_⟩
          by_cases ek : k = k0
          · rw [ek, x_us, y_cls_k]
          · rw [x_un ek, x_un e, y_cls_4 ek e]
            refine l6 h1 h2 (fun i hi => ?_)
            have hi : i < dp := hi
            show op i ≠ k
            by_cases ei : i = dp - 1
            · rw [ei, ← hk0]
              exact Ne.symm ek
            · exact hc i (show i < dp - 1 by omega)
    refine Exists.intro _ (And.intro (c_takeSign (c := 59) hT u3 (by decide) (by decide)) (And.intro (And.intro (Nat.zero_le _) (Nat.zero_le _)) (fun zq h' hpo => ?_)))
    cases e7 : y_sgn a m 59 (y_nxt a m q) with
    | inl e =>
      obtain ⟨rfl, F4, G4, rfl, p1, p2⟩ := x_PT_l e7 hpo
      refine And.intro ?_ ⟨Or.inl rfl, Nat.le_refl _, Nat.le_refl _⟩
      rw [hPo, hY, e7]
      exact ⟨rfl, F4, G4, rfl, x_fR_t hfr (x_fR_t (x_fR_10 u1) (x_fR_10 p1)), p2⟩
    | inr q5 =>
      obtain ⟨rfl, F4, G4, rfl, p1, p2⟩ := x_PT_r e7 hpo
      refine And.intro ?_ ⟨Or.inr rfl, Nat.le_refl _, Nat.le_refl _⟩
      rw [hPo, hY, e7]
      exact ⟨rfl, F4, G4, rfl, x_fR_t hfr (x_fR_t (x_fR_10 u1) (x_fR_10 p1)), x_RS_10 hTT (x_RS_10 hTT st2 u1 u3) p1 p2.1⟩
theorem c_stepFin_12_39 {z : xN5 × Nat} {dp' : Nat} {op' : Nat → Nat} {cw x2 : Int32} {Po : Option Value → xH → Prop} (hT : y_TP a m) (hNL : S.2.1 < 60) (hPo : Po = x_PR 32 a m f g (x_HR 12 39) dm n Y) (hS : x_RS 32 a m S q f g) (hA : x_fR 32 f g F G) (hB1 : F 32 1 = nI (S.2.2.1 + 1)) (hB2 : F 32 2 = nI (S.2.1 + 1)) (hB3 : F 610 4 = nI dp') (hB4 : ∀ i, i < dp' → F 611 i = nI (op' i)) (hC : ∀ c, 33 ≤ c → c ≤ 38 → ∀ k, k ≠ S.2.1 → F c k = f c k) (hD : F 33 S.2.1 = nI (y_wd z.1.1)) (hE : x_RC a m z.2 F G) (hO : x_od 32 S.2.1 z.1 F) (hn : z.1.1 ≠ 23) (hcl : ∀ k, k < S.2.1 → (∀ i, i < dp' → op' i ≠ k) → y_cl S k) (hcn : 17 < z.1.1 → z.1.1 ≠ 24 → ∃ i, i < dp' ∧ op' i = S.2.1) (hY : Y = y_bd (y_sgn a m 59 z.2) (fun q2 => .inr ((y_lne S.1 S.2.1 z.1, S.2.1 + 1, S.2.2.1 + 1, dp', op'), q2))) : x_J 62 (d + 4) Po 254 [some (.ref 610), some (.int cw), some (.int x2), some (.int (nI S.2.1)), some (.int 1)] [] (F, G, x_HR 12 39, dm, n) 0 0 := by
  have hTT : (32 : Nat) = 32 ∨ (32 : Nat) = 39 := by decide
  refine x_wp_ok ok62 [] 6 ?_
  refine And.intro (x_ix_nI (by omega) (by omega)) ?_
  rw [nI_clamp (by omega)]
  refine And.intro (fun c => absurd (show (1 : Int32) = 0 from c) (by decide)) (fun _ => ?_)
  have r5 : x_RC a m z.2 (x_up F 36 S.2.1 (F 10 9)) G := x_RC_up (by decide) hE
  have f5 : x_fR 32 f g (x_up F 36 S.2.1 (F 10 9)) G := x_fR_t hA (x_fR_up (Or.inr (Or.inr (by decide))))
  have st2 : x_RS 32 a m (y_lne S.1 S.2.1 z.1, S.2.1 + 1, S.2.2.1 + 1, dp', op') z.2 (x_up F 36 S.2.1 (F 10 9)) G := by
    refine ⟨r5, ?_, ?_, ?_, fun i hi => ?_, fun k hk => ?_⟩
    · rw [x_up_k (by decide)]; exact hB1
    · rw [x_up_k (by decide)]; exact hB2
    · rw [x_up_k (by decide)]; exact hB3
    · rw [x_up_k (by decide)]; exact hB4 i hi
    · have hk : k < S.2.1 + 1 := hk
      have c4 : (x_up F 36 S.2.1 (F 10 9)) 36 = va_up (F 36) S.2.1 (F 10 9) := x_up_c
      have co : ∀ c, c ≠ 36 → (x_up F 36 S.2.1 (F 10 9)) c = F c := fun c hc => x_up_k hc
      unfold x_lc
      show (x_up F 36 S.2.1 (F 10 9)) 33 k = nI (y_wd (y_lne S.1 S.2.1 z.1 0 k)) ∧ (y_lne S.1 S.2.1 z.1 0 k ≤ 15 → (x_up F 36 S.2.1 (F 10 9)) 34 k = nI (y_lne S.1 S.2.1 z.1 1 k) ∧ (x_up F 36 S.2.1 (F 10 9)) 35 k = nI (y_lne S.1 S.2.1 z.1 2 k)) ∧ (18 ≤ y_lne S.1 S.2.1 z.1 0 k ∧ y_lne S.1 S.2.1 z.1 0 k ≤ 20 → (x_up F 36 S.2.1 (F 10 9)) 34 k = nI (y_lne S.1 S.2.1 z.1 0 k + 1) ∧ (y_lne S.1 S.2.1 z.1 0 k ≠ 18 → (x_up F 36 S.2.1 (F 10 9)) 35 k = nI (y_lne S.1 S.2.1 z.1 1 k)) ∧ (x_up F 36 S.2.1 (F 10 9)) 37 k = nI (y_lne S.1 S.2.1 z.1 5 k)) ∧ (y_lne S.1 S.2.1 z.1 0 k ≠ 17 → y_lne S.1 S.2.1 z.1 0 k ≠ 23 → y_lne S.1 S.2.1 z.1 0 k ≠ 24 → (x_up F 36 S.2.1 (F 10 9)) 36 k = nI (y_lne S.1 S.2.1 z.1 3 k)) ∧ (17 < y_lne S.1 S.2.1 z.1 0 k → y_lne S.1 S.2.1 z.1 0 k ≠ 24 → y_cl (y_lne S.1 S.2.1 z.1, S.2.1 + 1, S.2.2.1 + 1, dp', op') k → (x_up F 36 S.2.1 (F 10 9)) 38 k = nI (y_lne S.1 S.2.1 z.1 4 k))
      rw [c4, co 33 (by decide), co 34 (by decide), co 35 (by decide), co 37 (by decide), co 38 (by decide)]
      by_cases e : k = S.2.1
      · rw [e, y_lne_0, y_lne_1, y_lne_2, y_lne_3, y_lne_4, y_lne_5, x_us]
        refine ⟨hD, hO.1, hO.2.1, fun h17 _ h24 => hO.2.2 h17 h24, fun h17 h24 hc => ?_⟩
        obtain ⟨i, hi, he⟩ := hcn h17 h24
        exact absurd he (hc i hi)
      · have s0 : ∀ c, y_lne S.1 S.2.1 z.1 c k = S.1 c k := fun c => y_lne_n e
        rw [s0 0, s0 1, s0 2, s0 3, s0 4, s0 5, x_un e, hC 33 (by decide) (by decide) k e, hC 34 (by decide) (by decide) k e, hC 35 (by decide) (by decide) k e, hC 36 (by decide) (by decide) k e, hC 37 (by decide) (by decide) k e, hC 38 (by decide) (by decide) k e]
        obtain ⟨l1, l2, l3, l4, l6⟩ := hS.2.2.2.2.2 k (by omega)
        exact ⟨l1, l2, l3, l4, fun h1 h2 hc => l6 h1 h2 (hcl k (by omega) hc)⟩
  refine Exists.intro _ (And.intro (c_takeSign (c := 59) hT r5 (by decide) (by decide)) (And.intro (And.intro (Nat.zero_le _) (Nat.zero_le _)) (fun zq h' hpo => ?_)))
  cases e7 : y_sgn a m 59 z.2 with
  | inl e =>
    obtain ⟨rfl, F4, G4, rfl, p1, p2⟩ := x_PT_l e7 hpo
    refine And.intro (fun _ => ?_) (fun c => absurd rfl c)
    refine And.intro ?_ ⟨Or.inl rfl, Nat.le_refl _, Nat.le_refl _⟩
    rw [hPo, hY, e7]
    exact ⟨rfl, F4, G4, rfl, x_fR_t f5 (x_fR_10 p1), p2⟩
  | inr q5 =>
    obtain ⟨rfl, F4, G4, rfl, p1, p2⟩ := x_PT_r e7 hpo
    refine And.intro (fun c => absurd (show (1 : Int32) = 0 from c) (by decide)) (fun _ => ?_)
    refine And.intro ?_ ⟨Or.inr rfl, Nat.le_refl _, Nat.le_refl _⟩
    rw [hPo, hY, e7]
    exact ⟨rfl, F4, G4, rfl, x_fR_t f5 (x_fR_10 p1), x_RS_10 hTT st2 p1 p2.1⟩
theorem c_stepNo_12_39 {NL : Nat} {cw x2 : Int32} {Po : Option Value → xH → Prop} (hNL : NL < 60) (hPo : Po = x_PR 32 a m f g (x_HR 12 39) dm n Y) (hA : x_fR 32 f g F G) (he : x_FL F e) (hY : Y = .inl e) : x_J 62 (d + 4) Po 254 [some (.ref 610), some (.int cw), some (.int x2), some (.int (nI NL)), some (.int 0)] [] (F, G, x_HR 12 39, dm, n) 0 0 := by
  refine x_wp_ok ok62 [] 6 ?_
  refine And.intro (x_ix_nI (by omega) (by omega)) ?_
  rw [nI_clamp (by omega)]
  refine And.intro (fun _ => ?_) (fun c => absurd rfl c)
  refine And.intro ?_ ⟨Or.inl rfl, Nat.le_refl _, Nat.le_refl _⟩
  rw [hPo, hY]
  exact ⟨rfl, _, G, rfl, x_fR_t hA (x_fR_up (Or.inr (Or.inr (by decide)))), he⟩
theorem c_readEnd_22_32 {P K G' : Nat} (hT : y_TP a m) (hI : y_RI P K G' S) (hS : x_RS 39 a m S q f g) (hw : y_wm a m q = 20) : x_Ct 61 (d + 3) [.ref 610] (f, g, x_HR 22 32, dm, n) (x_PR 39 a m f g (x_HR 22 32) dm n (y_rst a m N P K G' S q)) := by
  obtain ⟨Po, hPo⟩ : ∃ Po : Option Value → xH → Prop, Po = x_PR 39 a m f g (x_HR 22 32) dm n (y_rst a m N P K G' S q) := ⟨_, rfl⟩
  rw [← hPo]
  have hTT : (39 : Nat) = 32 ∨ (39 : Nat) = 39 := by decide
  have hs : y_sa a m q = 1 := y_wm_sa (by rw [hw]; decide)
  obtain ⟨s, NL, st, dp, op⟩ := S
  obtain ⟨i1, i2, i3, i4, i5, i6, i7, i8, i9⟩ := hI
  obtain ⟨hR, e1, e2, e4, e5, e6⟩ := hS
  simp only at i1 i2 i3 i4 i5 i6 i7 i8 i9 e1 e2 e4 e5 e6
  by_cases hd : dp = 0
  · have hY : y_rst a m N P K G' (s, NL, st, dp, op) q = .inl (y_fl a m q 2) := by
      unfold y_rst
      rw [if_pos hw, if_pos hd]
    refine x_Ct_w (by decide) (Nat.le_of_ble_eq_true rfl) ok61 [46] 6 ?_
    refine And.intro (fun _ => ?_) (fun c => absurd (show f 610 4 ≤ 0 by rw [e4, hd]; decide) c)
    refine Exists.intro _ (And.intro (c_fail (k := 2) hR) (And.intro (And.intro (Nat.zero_le _) (Nat.zero_le _)) (fun zq h' hpo => ?_)))
    obtain ⟨rfl, F1, rfl, u1, u2⟩ := hpo
    refine And.intro ?_ ⟨Or.inl rfl, Nat.le_refl _, Nat.le_refl _⟩
    rw [hPo, hY]
    exact ⟨rfl, F1, g, rfl, x_fR_10 u1, u2⟩
  · obtain ⟨k0, hk0⟩ : ∃ k0, k0 = op (dp - 1) := ⟨_, rfl⟩
    have w0 := i5 (dp - 1) (by omega)
    rw [← hk0] at w0
    have hY : y_rst a m N P K G' (s, NL, st, dp, op) q = y_bd (y_sgn a m 59 (y_nxt a m q)) (fun q2 => .inr ((y_cls s k0 NL, NL + 1, st, dp - 1, op), q2)) := by
      unfold y_rst
      rw [if_pos hw, if_neg hd]
      show y_bd _ (fun q2 => .inr ((y_cls s (op (dp - 1)) NL, NL + 1, st, dp - 1, op), q2)) = _
      rw [← hk0]
    have em : f 610 4 - Int32.ofInt 1 = nI (dp - 1) := by rw [e4]; exact pk_sub (b := 1) (by omega)
    refine x_Ct_w (by decide) (Nat.le_of_ble_eq_true rfl) ok61 [46] 6 ?_
    refine And.intro (fun c => absurd (show f 610 4 ≤ 0 from c) (by rw [e4]; exact nI_nle (by omega) (by omega))) (fun _ => ?_)
    refine And.intro (fun _ => ?_) (fun c => absurd (show f 39 2 < nI 60 by rw [e2]; exact nI_lt (by omega) (by decide)) c)
    show x_J 61 (d + 3) Po 46 [some (.ref 610), some (.int (f 39 2))] [] (x_up f 610 4 (f 610 4 - Int32.ofInt 1), g, x_HR 22 32, dm, n) 0 0
    rw [e2, em]
    obtain ⟨F1, hF1⟩ : ∃ F1, F1 = x_up f 610 4 (nI (dp - 1)) := ⟨_, rfl⟩
    rw [← hF1]
    have g4 : F1 610 4 = nI (dp - 1) := by rw [hF1]; exact x_up_s _ _ _ _
    have g1 : ∀ c, c ≠ 610 → F1 c = f c := fun c hc => by rw [hF1]; exact x_up_k hc
    have go : F1 611 (dp - 1) = nI k0 := by rw [g1 611 (by decide), e5 (dp - 1) (by omega), hk0]
    have c4 : (F1 610 4).toNatClampNeg = dp - 1 := by rw [g4]; exact nI_clamp (by omega)
    refine x_wp_ok ok61 [93] 6 ?_
    refine And.intro (x_ix_nI (by omega) (by omega)) ?_
    refine And.intro (by show x_ix (F1 610 4) 3; rw [g4]; exact x_ix_nI (by omega) (by omega)) ?_
    refine And.intro (x_ix_nI (by omega) (by omega)) ?_
    refine And.intro (by show x_ix (F1 610 4) 3; rw [g4]; exact x_ix_nI (by omega) (by omega)) ?_
    refine And.intro (by show x_ix (F1 611 (F1 610 4).toNatClampNeg) 60; rw [c4, go]; exact x_ix_nI (by omega) (by omega)) ?_
    have cN : (nI NL).toNatClampNeg = NL := nI_clamp (by omega)
    have ck : (nI k0).toNatClampNeg = k0 := nI_clamp (by omega)
    show x_J 61 (d + 3) Po 93 [some (.ref 610), some (.int (nI NL))] [] (x_up (x_up (x_up F1 40 (nI NL).toNatClampNeg 23) 45 (nI NL).toNatClampNeg (F1 611 (F1 610 4).toNatClampNeg)) 45 (F1 611 (F1 610 4).toNatClampNeg).toNatClampNeg (nI NL), g, x_HR 22 32, dm, n) 0 0
    rw [c4, go, cN, ck]
    obtain ⟨F2, hF2⟩ : ∃ F2, F2 = x_up (x_up (x_up F1 40 NL 23) 45 NL (nI k0)) 45 k0 (nI NL) := ⟨_, rfl⟩
    rw [← hF2]
    have t2 : F2 39 2 = nI NL := by rw [hF2, x_up_k (by decide), x_up_k (by decide), x_up_k (by decide), g1 _ (by decide)]; exact e2
    have r2 : x_RC a m q (x_up F2 39 2 (F2 39 2 + Int32.ofInt 1)) g := by
      refine x_RC_up (by decide) ?_
      rw [hF2]
      refine x_RC_up (by decide) (x_RC_up (by decide) (x_RC_up (by decide) ?_))
      rw [hF1]
      exact x_RC_up (by decide) hR
    refine x_wp_ok ok61 [] 6 ?_
    refine Exists.intro _ (And.intro (c_adv hT r2 (by rw [hs]; decide) (by rw [hs]; decide)) (And.intro (And.intro (Nat.zero_le _) (Nat.zero_le _)) (fun zq h' hpo => ?_)))
    obtain ⟨rfl, F3, G3, rfl, u1, -, u3⟩ := hpo
    have hfr : x_fR 39 f g (x_up F2 39 2 (F2 39 2 + Int32.ofInt 1)) g := by
      refine x_fR_t ?_ (x_fR_up (Or.inr (Or.inr (by decide))))
      rw [hF2]
      refine x_fR_t ?_ (x_fR_t (x_fR_up (Or.inr (Or.inr (by decide)))) (x_fR_t (x_fR_up (Or.inr (Or.inr (by decide)))) (x_fR_up (Or.inr (Or.inr (by decide))))))
      rw [hF1]
      exact x_fR_up (Or.inl rfl)
    have st2 : x_RS 39 a m (y_cls s k0 NL, NL + 1, st, dp - 1, op) q (x_up F2 39 2 (F2 39 2 + Int32.ofInt 1)) g := by
      refine ⟨r2, ?_, ?_, ?_, fun i hi => ?_, fun k hk => ?_⟩
      · rw [x_up_j (by decide), hF2, x_up_k (by decide), x_up_k (by decide), x_up_k (by decide), g1 _ (by decide)]
        exact e1
      · rw [x_up_s, t2, nI_1o]
      · rw [x_up_k (by decide), hF2, x_up_k (by decide), x_up_k (by decide), x_up_k (by decide)]
        exact g4
      · have hi : i < dp - 1 := hi
        rw [x_up_k (by decide), hF2, x_up_k (by decide), x_up_k (by decide), x_up_k (by decide), g1 _ (by decide)]
        exact e5 i (by omega)
      · have hk : k < NL + 1 := hk
        have c1 : (x_up F2 39 2 (F2 39 2 + Int32.ofInt 1)) 40 = va_up (f 40) NL 23 := by rw [x_up_k (by decide), hF2, x_up_k (by decide), x_up_k (by decide), x_up_c, g1 _ (by decide)]
        have c6 : (x_up F2 39 2 (F2 39 2 + Int32.ofInt 1)) 45 = va_up (va_up (f 45) NL (nI k0)) k0 (nI NL) := by rw [x_up_k (by decide), hF2, x_up_c, x_up_c, x_up_k (by decide), g1 _ (by decide)]
        have co : ∀ c, c = 41 ∨ c = 42 ∨ c = 43 ∨ c = 44 → (x_up F2 39 2 (F2 39 2 + Int32.ofInt 1)) c = f c := by
          intro c hc
          rw [x_up_k (by omega), hF2, x_up_k (by omega), x_up_k (by omega), x_up_k (by omega), g1 _ (by omega)]
        show (x_up F2 39 2 (F2 39 2 + Int32.ofInt 1)) 40 k = nI (y_wd (y_cls s k0 NL 0 k)) ∧ (y_cls s k0 NL 0 k ≤ 15 → (x_up F2 39 2 (F2 39 2 + Int32.ofInt 1)) 41 k = nI (y_cls s k0 NL 1 k) ∧ (x_up F2 39 2 (F2 39 2 + Int32.ofInt 1)) 42 k = nI (y_cls s k0 NL 2 k)) ∧ (18 ≤ y_cls s k0 NL 0 k ∧ y_cls s k0 NL 0 k ≤ 20 → (x_up F2 39 2 (F2 39 2 + Int32.ofInt 1)) 41 k = nI (y_cls s k0 NL 0 k + 1) ∧ (y_cls s k0 NL 0 k ≠ 18 → (x_up F2 39 2 (F2 39 2 + Int32.ofInt 1)) 42 k = nI (y_cls s k0 NL 1 k)) ∧ (x_up F2 39 2 (F2 39 2 + Int32.ofInt 1)) 44 k = nI (y_cls s k0 NL 5 k)) ∧ (y_cls s k0 NL 0 k ≠ 17 → y_cls s k0 NL 0 k ≠ 23 → y_cls s k0 NL 0 k ≠ 24 → (x_up F2 39 2 (F2 39 2 + Int32.ofInt 1)) 43 k = nI (y_cls s k0 NL 3 k)) ∧ (17 < y_cls s k0 NL 0 k → y_cls s k0 NL 0 k ≠ 24 → y_cl (y_cls s k0 NL, NL + 1, st, dp - 1, op) k → (x_up F2 39 2 (F2 39 2 + Int32.ofInt 1)) 45 k = nI (y_cls s k0 NL 4 k))
        rw [c1, c6, co _ (Or.inl rfl), co _ (Or.inr (Or.inl rfl)), co _ (Or.inr (Or.inr (Or.inl rfl))), co _ (Or.inr (Or.inr (Or.inr rfl)))]
        by_cases e : k = NL
        · rw [e, y_cls_0, x_us]
          refine ⟨rfl, fun h => absurd h (by decide), fun h => absurd h.2 (by decide), fun _ h => absurd rfl h, fun _ _ _ => ?_⟩
          rw [x_un (by omega), x_us, y_cls_e (by omega)]
        · obtain ⟨l1, l2, l3, l4, l6⟩ := e6 k (by omega)
          have s0 : ∀ c, c ≠ 4 → y_cls s k0 NL c k = s c k := fun c hc => y_cls_n hc (Or.inr e)
          rw [s0 0 (by decide), s0 1 (by decide), s0 2 (by decide), s0 3 (by decide), s0 5 (by decide), x_un e]
          refine ⟨l1, l2, l3, l4, fun h1 h2 hc => ?_⟩
          by_cases ek : k = k0
          · rw [ek, x_us, y_cls_k]
          · rw [x_un ek, x_un e, y_cls_4 ek e]
            refine l6 h1 h2 (fun i hi => ?_)
            have hi : i < dp := hi
            show op i ≠ k
            by_cases ei : i = dp - 1
            · rw [ei, ← hk0]
              exact Ne.symm ek
            · exact hc i (show i < dp - 1 by omega)
    refine Exists.intro _ (And.intro (c_takeSign (c := 59) hT u3 (by decide) (by decide)) (And.intro (And.intro (Nat.zero_le _) (Nat.zero_le _)) (fun zq h' hpo => ?_)))
    cases e7 : y_sgn a m 59 (y_nxt a m q) with
    | inl e =>
      obtain ⟨rfl, F4, G4, rfl, p1, p2⟩ := x_PT_l e7 hpo
      refine And.intro ?_ ⟨Or.inl rfl, Nat.le_refl _, Nat.le_refl _⟩
      rw [hPo, hY, e7]
      exact ⟨rfl, F4, G4, rfl, x_fR_t hfr (x_fR_t (x_fR_10 u1) (x_fR_10 p1)), p2⟩
    | inr q5 =>
      obtain ⟨rfl, F4, G4, rfl, p1, p2⟩ := x_PT_r e7 hpo
      refine And.intro ?_ ⟨Or.inr rfl, Nat.le_refl _, Nat.le_refl _⟩
      rw [hPo, hY, e7]
      exact ⟨rfl, F4, G4, rfl, x_fR_t hfr (x_fR_t (x_fR_10 u1) (x_fR_10 p1)), x_RS_10 hTT (x_RS_10 hTT st2 u1 u3) p1 p2.1⟩
theorem c_stepFin_22_32 {z : xN5 × Nat} {dp' : Nat} {op' : Nat → Nat} {cw x2 : Int32} {Po : Option Value → xH → Prop} (hT : y_TP a m) (hNL : S.2.1 < 60) (hPo : Po = x_PR 39 a m f g (x_HR 22 32) dm n Y) (hS : x_RS 39 a m S q f g) (hA : x_fR 39 f g F G) (hB1 : F 39 1 = nI (S.2.2.1 + 1)) (hB2 : F 39 2 = nI (S.2.1 + 1)) (hB3 : F 610 4 = nI dp') (hB4 : ∀ i, i < dp' → F 611 i = nI (op' i)) (hC : ∀ c, 40 ≤ c → c ≤ 45 → ∀ k, k ≠ S.2.1 → F c k = f c k) (hD : F 40 S.2.1 = nI (y_wd z.1.1)) (hE : x_RC a m z.2 F G) (hO : x_od 39 S.2.1 z.1 F) (hn : z.1.1 ≠ 23) (hcl : ∀ k, k < S.2.1 → (∀ i, i < dp' → op' i ≠ k) → y_cl S k) (hcn : 17 < z.1.1 → z.1.1 ≠ 24 → ∃ i, i < dp' ∧ op' i = S.2.1) (hY : Y = y_bd (y_sgn a m 59 z.2) (fun q2 => .inr ((y_lne S.1 S.2.1 z.1, S.2.1 + 1, S.2.2.1 + 1, dp', op'), q2))) : x_J 62 (d + 4) Po 254 [some (.ref 610), some (.int cw), some (.int x2), some (.int (nI S.2.1)), some (.int 1)] [] (F, G, x_HR 22 32, dm, n) 0 0 := by
  have hTT : (39 : Nat) = 32 ∨ (39 : Nat) = 39 := by decide
  refine x_wp_ok ok62 [] 6 ?_
  refine And.intro (x_ix_nI (by omega) (by omega)) ?_
  rw [nI_clamp (by omega)]
  refine And.intro (fun c => absurd (show (1 : Int32) = 0 from c) (by decide)) (fun _ => ?_)
  have r5 : x_RC a m z.2 (x_up F 43 S.2.1 (F 10 9)) G := x_RC_up (by decide) hE
  have f5 : x_fR 39 f g (x_up F 43 S.2.1 (F 10 9)) G := x_fR_t hA (x_fR_up (Or.inr (Or.inr (by decide))))
  have st2 : x_RS 39 a m (y_lne S.1 S.2.1 z.1, S.2.1 + 1, S.2.2.1 + 1, dp', op') z.2 (x_up F 43 S.2.1 (F 10 9)) G := by
    refine ⟨r5, ?_, ?_, ?_, fun i hi => ?_, fun k hk => ?_⟩
    · rw [x_up_k (by decide)]; exact hB1
    · rw [x_up_k (by decide)]; exact hB2
    · rw [x_up_k (by decide)]; exact hB3
    · rw [x_up_k (by decide)]; exact hB4 i hi
    · have hk : k < S.2.1 + 1 := hk
      have c4 : (x_up F 43 S.2.1 (F 10 9)) 43 = va_up (F 43) S.2.1 (F 10 9) := x_up_c
      have co : ∀ c, c ≠ 43 → (x_up F 43 S.2.1 (F 10 9)) c = F c := fun c hc => x_up_k hc
      unfold x_lc
      show (x_up F 43 S.2.1 (F 10 9)) 40 k = nI (y_wd (y_lne S.1 S.2.1 z.1 0 k)) ∧ (y_lne S.1 S.2.1 z.1 0 k ≤ 15 → (x_up F 43 S.2.1 (F 10 9)) 41 k = nI (y_lne S.1 S.2.1 z.1 1 k) ∧ (x_up F 43 S.2.1 (F 10 9)) 42 k = nI (y_lne S.1 S.2.1 z.1 2 k)) ∧ (18 ≤ y_lne S.1 S.2.1 z.1 0 k ∧ y_lne S.1 S.2.1 z.1 0 k ≤ 20 → (x_up F 43 S.2.1 (F 10 9)) 41 k = nI (y_lne S.1 S.2.1 z.1 0 k + 1) ∧ (y_lne S.1 S.2.1 z.1 0 k ≠ 18 → (x_up F 43 S.2.1 (F 10 9)) 42 k = nI (y_lne S.1 S.2.1 z.1 1 k)) ∧ (x_up F 43 S.2.1 (F 10 9)) 44 k = nI (y_lne S.1 S.2.1 z.1 5 k)) ∧ (y_lne S.1 S.2.1 z.1 0 k ≠ 17 → y_lne S.1 S.2.1 z.1 0 k ≠ 23 → y_lne S.1 S.2.1 z.1 0 k ≠ 24 → (x_up F 43 S.2.1 (F 10 9)) 43 k = nI (y_lne S.1 S.2.1 z.1 3 k)) ∧ (17 < y_lne S.1 S.2.1 z.1 0 k → y_lne S.1 S.2.1 z.1 0 k ≠ 24 → y_cl (y_lne S.1 S.2.1 z.1, S.2.1 + 1, S.2.2.1 + 1, dp', op') k → (x_up F 43 S.2.1 (F 10 9)) 45 k = nI (y_lne S.1 S.2.1 z.1 4 k))
      rw [c4, co 40 (by decide), co 41 (by decide), co 42 (by decide), co 44 (by decide), co 45 (by decide)]
      by_cases e : k = S.2.1
      · rw [e, y_lne_0, y_lne_1, y_lne_2, y_lne_3, y_lne_4, y_lne_5, x_us]
        refine ⟨hD, hO.1, hO.2.1, fun h17 _ h24 => hO.2.2 h17 h24, fun h17 h24 hc => ?_⟩
        obtain ⟨i, hi, he⟩ := hcn h17 h24
        exact absurd he (hc i hi)
      · have s0 : ∀ c, y_lne S.1 S.2.1 z.1 c k = S.1 c k := fun c => y_lne_n e
        rw [s0 0, s0 1, s0 2, s0 3, s0 4, s0 5, x_un e, hC 40 (by decide) (by decide) k e, hC 41 (by decide) (by decide) k e, hC 42 (by decide) (by decide) k e, hC 43 (by decide) (by decide) k e, hC 44 (by decide) (by decide) k e, hC 45 (by decide) (by decide) k e]
        obtain ⟨l1, l2, l3, l4, l6⟩ := hS.2.2.2.2.2 k (by omega)
        exact ⟨l1, l2, l3, l4, fun h1 h2 hc => l6 h1 h2 (hcl k (by omega) hc)⟩
  refine Exists.intro _ (And.intro (c_takeSign (c := 59) hT r5 (by decide) (by decide)) (And.intro (And.intro (Nat.zero_le _) (Nat.zero_le _)) (fun zq h' hpo => ?_)))
  cases e7 : y_sgn a m 59 z.2 with
  | inl e =>
    obtain ⟨rfl, F4, G4, rfl, p1, p2⟩ := x_PT_l e7 hpo
    refine And.intro (fun _ => ?_) (fun c => absurd rfl c)
    refine And.intro ?_ ⟨Or.inl rfl, Nat.le_refl _, Nat.le_refl _⟩
    rw [hPo, hY, e7]
    exact ⟨rfl, F4, G4, rfl, x_fR_t f5 (x_fR_10 p1), p2⟩
  | inr q5 =>
    obtain ⟨rfl, F4, G4, rfl, p1, p2⟩ := x_PT_r e7 hpo
    refine And.intro (fun c => absurd (show (1 : Int32) = 0 from c) (by decide)) (fun _ => ?_)
    refine And.intro ?_ ⟨Or.inr rfl, Nat.le_refl _, Nat.le_refl _⟩
    rw [hPo, hY, e7]
    exact ⟨rfl, F4, G4, rfl, x_fR_t f5 (x_fR_10 p1), x_RS_10 hTT st2 p1 p2.1⟩
theorem c_stepNo_22_32 {NL : Nat} {cw x2 : Int32} {Po : Option Value → xH → Prop} (hNL : NL < 60) (hPo : Po = x_PR 39 a m f g (x_HR 22 32) dm n Y) (hA : x_fR 39 f g F G) (he : x_FL F e) (hY : Y = .inl e) : x_J 62 (d + 4) Po 254 [some (.ref 610), some (.int cw), some (.int x2), some (.int (nI NL)), some (.int 0)] [] (F, G, x_HR 22 32, dm, n) 0 0 := by
  refine x_wp_ok ok62 [] 6 ?_
  refine And.intro (x_ix_nI (by omega) (by omega)) ?_
  rw [nI_clamp (by omega)]
  refine And.intro (fun _ => ?_) (fun c => absurd rfl c)
  refine And.intro ?_ ⟨Or.inl rfl, Nat.le_refl _, Nat.le_refl _⟩
  rw [hPo, hY]
  exact ⟨rfl, _, G, rfl, x_fR_t hA (x_fR_up (Or.inr (Or.inr (by decide)))), he⟩
theorem c_readEnd_22_39 {P K G' : Nat} (hT : y_TP a m) (hI : y_RI P K G' S) (hS : x_RS 32 a m S q f g) (hw : y_wm a m q = 20) : x_Ct 61 (d + 3) [.ref 610] (f, g, x_HR 22 39, dm, n) (x_PR 32 a m f g (x_HR 22 39) dm n (y_rst a m N P K G' S q)) := by
  obtain ⟨Po, hPo⟩ : ∃ Po : Option Value → xH → Prop, Po = x_PR 32 a m f g (x_HR 22 39) dm n (y_rst a m N P K G' S q) := ⟨_, rfl⟩
  rw [← hPo]
  have hTT : (32 : Nat) = 32 ∨ (32 : Nat) = 39 := by decide
  have hs : y_sa a m q = 1 := y_wm_sa (by rw [hw]; decide)
  obtain ⟨s, NL, st, dp, op⟩ := S
  obtain ⟨i1, i2, i3, i4, i5, i6, i7, i8, i9⟩ := hI
  obtain ⟨hR, e1, e2, e4, e5, e6⟩ := hS
  simp only at i1 i2 i3 i4 i5 i6 i7 i8 i9 e1 e2 e4 e5 e6
  by_cases hd : dp = 0
  · have hY : y_rst a m N P K G' (s, NL, st, dp, op) q = .inl (y_fl a m q 2) := by
      unfold y_rst
      rw [if_pos hw, if_pos hd]
    refine x_Ct_w (by decide) (Nat.le_of_ble_eq_true rfl) ok61 [46] 6 ?_
    refine And.intro (fun _ => ?_) (fun c => absurd (show f 610 4 ≤ 0 by rw [e4, hd]; decide) c)
    refine Exists.intro _ (And.intro (c_fail (k := 2) hR) (And.intro (And.intro (Nat.zero_le _) (Nat.zero_le _)) (fun zq h' hpo => ?_)))
    obtain ⟨rfl, F1, rfl, u1, u2⟩ := hpo
    refine And.intro ?_ ⟨Or.inl rfl, Nat.le_refl _, Nat.le_refl _⟩
    rw [hPo, hY]
    exact ⟨rfl, F1, g, rfl, x_fR_10 u1, u2⟩
  · obtain ⟨k0, hk0⟩ : ∃ k0, k0 = op (dp - 1) := ⟨_, rfl⟩
    have w0 := i5 (dp - 1) (by omega)
    rw [← hk0] at w0
    have hY : y_rst a m N P K G' (s, NL, st, dp, op) q = y_bd (y_sgn a m 59 (y_nxt a m q)) (fun q2 => .inr ((y_cls s k0 NL, NL + 1, st, dp - 1, op), q2)) := by
      unfold y_rst
      rw [if_pos hw, if_neg hd]
      show y_bd _ (fun q2 => .inr ((y_cls s (op (dp - 1)) NL, NL + 1, st, dp - 1, op), q2)) = _
      rw [← hk0]
    have em : f 610 4 - Int32.ofInt 1 = nI (dp - 1) := by rw [e4]; exact pk_sub (b := 1) (by omega)
    refine x_Ct_w (by decide) (Nat.le_of_ble_eq_true rfl) ok61 [46] 6 ?_
    refine And.intro (fun c => absurd (show f 610 4 ≤ 0 from c) (by rw [e4]; exact nI_nle (by omega) (by omega))) (fun _ => ?_)
    refine And.intro (fun _ => ?_) (fun c => absurd (show f 32 2 < nI 60 by rw [e2]; exact nI_lt (by omega) (by decide)) c)
    show x_J 61 (d + 3) Po 46 [some (.ref 610), some (.int (f 32 2))] [] (x_up f 610 4 (f 610 4 - Int32.ofInt 1), g, x_HR 22 39, dm, n) 0 0
    rw [e2, em]
    obtain ⟨F1, hF1⟩ : ∃ F1, F1 = x_up f 610 4 (nI (dp - 1)) := ⟨_, rfl⟩
    rw [← hF1]
    have g4 : F1 610 4 = nI (dp - 1) := by rw [hF1]; exact x_up_s _ _ _ _
    have g1 : ∀ c, c ≠ 610 → F1 c = f c := fun c hc => by rw [hF1]; exact x_up_k hc
    have go : F1 611 (dp - 1) = nI k0 := by rw [g1 611 (by decide), e5 (dp - 1) (by omega), hk0]
    have c4 : (F1 610 4).toNatClampNeg = dp - 1 := by rw [g4]; exact nI_clamp (by omega)
    refine x_wp_ok ok61 [93] 6 ?_
    refine And.intro (x_ix_nI (by omega) (by omega)) ?_
    refine And.intro (by show x_ix (F1 610 4) 3; rw [g4]; exact x_ix_nI (by omega) (by omega)) ?_
    refine And.intro (x_ix_nI (by omega) (by omega)) ?_
    refine And.intro (by show x_ix (F1 610 4) 3; rw [g4]; exact x_ix_nI (by omega) (by omega)) ?_
    refine And.intro (by show x_ix (F1 611 (F1 610 4).toNatClampNeg) 60; rw [c4, go]; exact x_ix_nI (by omega) (by omega)) ?_
    have cN : (nI NL).toNatClampNeg = NL := nI_clamp (by omega)
    have ck : (nI k0).toNatClampNeg = k0 := nI_clamp (by omega)
    show x_J 61 (d + 3) Po 93 [some (.ref 610), some (.int (nI NL))] [] (x_up (x_up (x_up F1 33 (nI NL).toNatClampNeg 23) 38 (nI NL).toNatClampNeg (F1 611 (F1 610 4).toNatClampNeg)) 38 (F1 611 (F1 610 4).toNatClampNeg).toNatClampNeg (nI NL), g, x_HR 22 39, dm, n) 0 0
    rw [c4, go, cN, ck]
    obtain ⟨F2, hF2⟩ : ∃ F2, F2 = x_up (x_up (x_up F1 33 NL 23) 38 NL (nI k0)) 38 k0 (nI NL) := ⟨_, rfl⟩
    rw [← hF2]
    have t2 : F2 32 2 = nI NL := by rw [hF2, x_up_k (by decide), x_up_k (by decide), x_up_k (by decide), g1 _ (by decide)]; exact e2
    have r2 : x_RC a m q (x_up F2 32 2 (F2 32 2 + Int32.ofInt 1)) g := by
      refine x_RC_up (by decide) ?_
      rw [hF2]
      refine x_RC_up (by decide) (x_RC_up (by decide) (x_RC_up (by decide) ?_))
      rw [hF1]
      exact x_RC_up (by decide) hR
    refine x_wp_ok ok61 [] 6 ?_
    refine Exists.intro _ (And.intro (c_adv hT r2 (by rw [hs]; decide) (by rw [hs]; decide)) (And.intro (And.intro (Nat.zero_le _) (Nat.zero_le _)) (fun zq h' hpo => ?_)))
    obtain ⟨rfl, F3, G3, rfl, u1, -, u3⟩ := hpo
    have hfr : x_fR 32 f g (x_up F2 32 2 (F2 32 2 + Int32.ofInt 1)) g := by
      refine x_fR_t ?_ (x_fR_up (Or.inr (Or.inr (by decide))))
      rw [hF2]
      refine x_fR_t ?_ (x_fR_t (x_fR_up (Or.inr (Or.inr (by decide)))) (x_fR_t (x_fR_up (Or.inr (Or.inr (by decide)))) (x_fR_up (Or.inr (Or.inr (by decide))))))
      rw [hF1]
      exact x_fR_up (Or.inl rfl)
    have st2 : x_RS 32 a m (y_cls s k0 NL, NL + 1, st, dp - 1, op) q (x_up F2 32 2 (F2 32 2 + Int32.ofInt 1)) g := by
      refine ⟨r2, ?_, ?_, ?_, fun i hi => ?_, fun k hk => ?_⟩
      · rw [x_up_j (by decide), hF2, x_up_k (by decide), x_up_k (by decide), x_up_k (by decide), g1 _ (by decide)]
        exact e1
      · rw [x_up_s, t2, nI_1o]
      · rw [x_up_k (by decide), hF2, x_up_k (by decide), x_up_k (by decide), x_up_k (by decide)]
        exact g4
      · have hi : i < dp - 1 := hi
        rw [x_up_k (by decide), hF2, x_up_k (by decide), x_up_k (by decide), x_up_k (by decide), g1 _ (by decide)]
        exact e5 i (by omega)
      · have hk : k < NL + 1 := hk
        have c1 : (x_up F2 32 2 (F2 32 2 + Int32.ofInt 1)) 33 = va_up (f 33) NL 23 := by rw [x_up_k (by decide), hF2, x_up_k (by decide), x_up_k (by decide), x_up_c, g1 _ (by decide)]
        have c6 : (x_up F2 32 2 (F2 32 2 + Int32.ofInt 1)) 38 = va_up (va_up (f 38) NL (nI k0)) k0 (nI NL) := by rw [x_up_k (by decide), hF2, x_up_c, x_up_c, x_up_k (by decide), g1 _ (by decide)]
        have co : ∀ c, c = 34 ∨ c = 35 ∨ c = 36 ∨ c = 37 → (x_up F2 32 2 (F2 32 2 + Int32.ofInt 1)) c = f c := by
          intro c hc
          rw [x_up_k (by omega), hF2, x_up_k (by omega), x_up_k (by omega), x_up_k (by omega), g1 _ (by omega)]
        show (x_up F2 32 2 (F2 32 2 + Int32.ofInt 1)) 33 k = nI (y_wd (y_cls s k0 NL 0 k)) ∧ (y_cls s k0 NL 0 k ≤ 15 → (x_up F2 32 2 (F2 32 2 + Int32.ofInt 1)) 34 k = nI (y_cls s k0 NL 1 k) ∧ (x_up F2 32 2 (F2 32 2 + Int32.ofInt 1)) 35 k = nI (y_cls s k0 NL 2 k)) ∧ (18 ≤ y_cls s k0 NL 0 k ∧ y_cls s k0 NL 0 k ≤ 20 → (x_up F2 32 2 (F2 32 2 + Int32.ofInt 1)) 34 k = nI (y_cls s k0 NL 0 k + 1) ∧ (y_cls s k0 NL 0 k ≠ 18 → (x_up F2 32 2 (F2 32 2 + Int32.ofInt 1)) 35 k = nI (y_cls s k0 NL 1 k)) ∧ (x_up F2 32 2 (F2 32 2 + Int32.ofInt 1)) 37 k = nI (y_cls s k0 NL 5 k)) ∧ (y_cls s k0 NL 0 k ≠ 17 → y_cls s k0 NL 0 k ≠ 23 → y_cls s k0 NL 0 k ≠ 24 → (x_up F2 32 2 (F2 32 2 + Int32.ofInt 1)) 36 k = nI (y_cls s k0 NL 3 k)) ∧ (17 < y_cls s k0 NL 0 k → y_cls s k0 NL 0 k ≠ 24 → y_cl (y_cls s k0 NL, NL + 1, st, dp - 1, op) k → (x_up F2 32 2 (F2 32 2 + Int32.ofInt 1)) 38 k = nI (y_cls s k0 NL 4 k))
        rw [c1, c6, co _ (Or.inl rfl), co _ (Or.inr (Or.inl rfl)), co _ (Or.inr (Or.inr (Or.inl rfl))), co _ (Or.inr (Or.inr (Or.inr rfl)))]
        by_cases e : k = NL
        · rw [e, y_cls_0, x_us]
          refine ⟨rfl, fun h => absurd h (by decide), fun h => absurd h.2 (by decide), fun _ h => absurd rfl h, fun _ _ _ => ?_⟩
          rw [x_un (by omega), x_us, y_cls_e (by omega)]
        · obtain ⟨l1, l2, l3, l4, l6⟩ := e6 k (by omega)
          have s0 : ∀ c, c ≠ 4 → y_cls s k0 NL c k = s c k := fun c hc => y_cls_n hc (Or.inr e)
          rw [s0 0 (by decide), s0 1 (by decide), s0 2 (by decide), s0 3 (by decide), s0 5 (by decide), x_un e]
          refine ⟨l1, l2, l3, l4, fun h1 h2 hc => ?_⟩
          by_cases ek : k = k0
          · rw [ek, x_us, y_cls_k]
          · rw [x_un ek, x_un e, y_cls_4 ek e]
            refine l6 h1 h2 (fun i hi => ?_)
            have hi : i < dp := hi
            show op i ≠ k
            by_cases ei : i = dp - 1
            · rw [ei, ← hk0]
              exact Ne.symm ek
            · exact hc i (show i < dp - 1 by omega)
    refine Exists.intro _ (And.intro (c_takeSign (c := 59) hT u3 (by decide) (by decide)) (And.intro (And.intro (Nat.zero_le _) (Nat.zero_le _)) (fun zq h' hpo => ?_)))
    cases e7 : y_sgn a m 59 (y_nxt a m q) with
    | inl e =>
      obtain ⟨rfl, F4, G4, rfl, p1, p2⟩ := x_PT_l e7 hpo
      refine And.intro ?_ ⟨Or.inl rfl, Nat.le_refl _, Nat.le_refl _⟩
      rw [hPo, hY, e7]
      exact ⟨rfl, F4, G4, rfl, x_fR_t hfr (x_fR_t (x_fR_10 u1) (x_fR_10 p1)), p2⟩
    | inr q5 =>
      obtain ⟨rfl, F4, G4, rfl, p1, p2⟩ := x_PT_r e7 hpo
      refine And.intro ?_ ⟨Or.inr rfl, Nat.le_refl _, Nat.le_refl _⟩
      rw [hPo, hY, e7]
      exact ⟨rfl, F4, G4, rfl, x_fR_t hfr (x_fR_t (x_fR_10 u1) (x_fR_10 p1)), x_RS_10 hTT (x_RS_10 hTT st2 u1 u3) p1 p2.1⟩
theorem c_stepFin_22_39 {z : xN5 × Nat} {dp' : Nat} {op' : Nat → Nat} {cw x2 : Int32} {Po : Option Value → xH → Prop} (hT : y_TP a m) (hNL : S.2.1 < 60) (hPo : Po = x_PR 32 a m f g (x_HR 22 39) dm n Y) (hS : x_RS 32 a m S q f g) (hA : x_fR 32 f g F G) (hB1 : F 32 1 = nI (S.2.2.1 + 1)) (hB2 : F 32 2 = nI (S.2.1 + 1)) (hB3 : F 610 4 = nI dp') (hB4 : ∀ i, i < dp' → F 611 i = nI (op' i)) (hC : ∀ c, 33 ≤ c → c ≤ 38 → ∀ k, k ≠ S.2.1 → F c k = f c k) (hD : F 33 S.2.1 = nI (y_wd z.1.1)) (hE : x_RC a m z.2 F G) (hO : x_od 32 S.2.1 z.1 F) (hn : z.1.1 ≠ 23) (hcl : ∀ k, k < S.2.1 → (∀ i, i < dp' → op' i ≠ k) → y_cl S k) (hcn : 17 < z.1.1 → z.1.1 ≠ 24 → ∃ i, i < dp' ∧ op' i = S.2.1) (hY : Y = y_bd (y_sgn a m 59 z.2) (fun q2 => .inr ((y_lne S.1 S.2.1 z.1, S.2.1 + 1, S.2.2.1 + 1, dp', op'), q2))) : x_J 62 (d + 4) Po 254 [some (.ref 610), some (.int cw), some (.int x2), some (.int (nI S.2.1)), some (.int 1)] [] (F, G, x_HR 22 39, dm, n) 0 0 := by
  have hTT : (32 : Nat) = 32 ∨ (32 : Nat) = 39 := by decide
  refine x_wp_ok ok62 [] 6 ?_
  refine And.intro (x_ix_nI (by omega) (by omega)) ?_
  rw [nI_clamp (by omega)]
  refine And.intro (fun c => absurd (show (1 : Int32) = 0 from c) (by decide)) (fun _ => ?_)
  have r5 : x_RC a m z.2 (x_up F 36 S.2.1 (F 10 9)) G := x_RC_up (by decide) hE
  have f5 : x_fR 32 f g (x_up F 36 S.2.1 (F 10 9)) G := x_fR_t hA (x_fR_up (Or.inr (Or.inr (by decide))))
  have st2 : x_RS 32 a m (y_lne S.1 S.2.1 z.1, S.2.1 + 1, S.2.2.1 + 1, dp', op') z.2 (x_up F 36 S.2.1 (F 10 9)) G := by
    refine ⟨r5, ?_, ?_, ?_, fun i hi => ?_, fun k hk => ?_⟩
    · rw [x_up_k (by decide)]; exact hB1
    · rw [x_up_k (by decide)]; exact hB2
    · rw [x_up_k (by decide)]; exact hB3
    · rw [x_up_k (by decide)]; exact hB4 i hi
    · have hk : k < S.2.1 + 1 := hk
      have c4 : (x_up F 36 S.2.1 (F 10 9)) 36 = va_up (F 36) S.2.1 (F 10 9) := x_up_c
      have co : ∀ c, c ≠ 36 → (x_up F 36 S.2.1 (F 10 9)) c = F c := fun c hc => x_up_k hc
      unfold x_lc
      show (x_up F 36 S.2.1 (F 10 9)) 33 k = nI (y_wd (y_lne S.1 S.2.1 z.1 0 k)) ∧ (y_lne S.1 S.2.1 z.1 0 k ≤ 15 → (x_up F 36 S.2.1 (F 10 9)) 34 k = nI (y_lne S.1 S.2.1 z.1 1 k) ∧ (x_up F 36 S.2.1 (F 10 9)) 35 k = nI (y_lne S.1 S.2.1 z.1 2 k)) ∧ (18 ≤ y_lne S.1 S.2.1 z.1 0 k ∧ y_lne S.1 S.2.1 z.1 0 k ≤ 20 → (x_up F 36 S.2.1 (F 10 9)) 34 k = nI (y_lne S.1 S.2.1 z.1 0 k + 1) ∧ (y_lne S.1 S.2.1 z.1 0 k ≠ 18 → (x_up F 36 S.2.1 (F 10 9)) 35 k = nI (y_lne S.1 S.2.1 z.1 1 k)) ∧ (x_up F 36 S.2.1 (F 10 9)) 37 k = nI (y_lne S.1 S.2.1 z.1 5 k)) ∧ (y_lne S.1 S.2.1 z.1 0 k ≠ 17 → y_lne S.1 S.2.1 z.1 0 k ≠ 23 → y_lne S.1 S.2.1 z.1 0 k ≠ 24 → (x_up F 36 S.2.1 (F 10 9)) 36 k = nI (y_lne S.1 S.2.1 z.1 3 k)) ∧ (17 < y_lne S.1 S.2.1 z.1 0 k → y_lne S.1 S.2.1 z.1 0 k ≠ 24 → y_cl (y_lne S.1 S.2.1 z.1, S.2.1 + 1, S.2.2.1 + 1, dp', op') k → (x_up F 36 S.2.1 (F 10 9)) 38 k = nI (y_lne S.1 S.2.1 z.1 4 k))
      rw [c4, co 33 (by decide), co 34 (by decide), co 35 (by decide), co 37 (by decide), co 38 (by decide)]
      by_cases e : k = S.2.1
      · rw [e, y_lne_0, y_lne_1, y_lne_2, y_lne_3, y_lne_4, y_lne_5, x_us]
        refine ⟨hD, hO.1, hO.2.1, fun h17 _ h24 => hO.2.2 h17 h24, fun h17 h24 hc => ?_⟩
        obtain ⟨i, hi, he⟩ := hcn h17 h24
        exact absurd he (hc i hi)
      · have s0 : ∀ c, y_lne S.1 S.2.1 z.1 c k = S.1 c k := fun c => y_lne_n e
        rw [s0 0, s0 1, s0 2, s0 3, s0 4, s0 5, x_un e, hC 33 (by decide) (by decide) k e, hC 34 (by decide) (by decide) k e, hC 35 (by decide) (by decide) k e, hC 36 (by decide) (by decide) k e, hC 37 (by decide) (by decide) k e, hC 38 (by decide) (by decide) k e]
        obtain ⟨l1, l2, l3, l4, l6⟩ := hS.2.2.2.2.2 k (by omega)
        exact ⟨l1, l2, l3, l4, fun h1 h2 hc => l6 h1 h2 (hcl k (by omega) hc)⟩
  refine Exists.intro _ (And.intro (c_takeSign (c := 59) hT r5 (by decide) (by decide)) (And.intro (And.intro (Nat.zero_le _) (Nat.zero_le _)) (fun zq h' hpo => ?_)))
  cases e7 : y_sgn a m 59 z.2 with
  | inl e =>
    obtain ⟨rfl, F4, G4, rfl, p1, p2⟩ := x_PT_l e7 hpo
    refine And.intro (fun _ => ?_) (fun c => absurd rfl c)
    refine And.intro ?_ ⟨Or.inl rfl, Nat.le_refl _, Nat.le_refl _⟩
    rw [hPo, hY, e7]
    exact ⟨rfl, F4, G4, rfl, x_fR_t f5 (x_fR_10 p1), p2⟩
  | inr q5 =>
    obtain ⟨rfl, F4, G4, rfl, p1, p2⟩ := x_PT_r e7 hpo
    refine And.intro (fun c => absurd (show (1 : Int32) = 0 from c) (by decide)) (fun _ => ?_)
    refine And.intro ?_ ⟨Or.inr rfl, Nat.le_refl _, Nat.le_refl _⟩
    rw [hPo, hY, e7]
    exact ⟨rfl, F4, G4, rfl, x_fR_t f5 (x_fR_10 p1), x_RS_10 hTT st2 p1 p2.1⟩
theorem c_stepNo_22_39 {NL : Nat} {cw x2 : Int32} {Po : Option Value → xH → Prop} (hNL : NL < 60) (hPo : Po = x_PR 32 a m f g (x_HR 22 39) dm n Y) (hA : x_fR 32 f g F G) (he : x_FL F e) (hY : Y = .inl e) : x_J 62 (d + 4) Po 254 [some (.ref 610), some (.int cw), some (.int x2), some (.int (nI NL)), some (.int 0)] [] (F, G, x_HR 22 39, dm, n) 0 0 := by
  refine x_wp_ok ok62 [] 6 ?_
  refine And.intro (x_ix_nI (by omega) (by omega)) ?_
  rw [nI_clamp (by omega)]
  refine And.intro (fun _ => ?_) (fun c => absurd rfl c)
  refine And.intro ?_ ⟨Or.inl rfl, Nat.le_refl _, Nat.le_refl _⟩
  rw [hPo, hY]
  exact ⟨rfl, _, G, rfl, x_fR_t hA (x_fR_up (Or.inr (Or.inr (by decide)))), he⟩
end C97
