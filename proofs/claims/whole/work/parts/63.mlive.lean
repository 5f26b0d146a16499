/-! the model's lives() -/
def x_EN (f F : Nat → Nat → Int32) (q0 : Nat) (v : xV) (ch st mi mo bo : Nat) (le : Bool) : Prop := v_M (F 501) 0 v ∧ (∀ j, 96 ≤ j → F 501 j = f 501 j) ∧ F 501 11 = f 501 11 ∧ (∀ c, c ≠ 501 → c ≠ 509 → c ≠ 510 → c ≠ 515 → c ≠ 516 → c ≠ 500 → F c = f c) ∧ F 516 0 = nI mi ∧ F 516 1 = nI mo ∧ F 516 2 = nI bo ∧ F 516 3 = nI (v 16 0 0 - q0) ∧ F 516 4 = x_bo le ∧ F 500 32 = nI ch ∧ F 500 33 = nI st ∧ ∀ j, j ≠ 32 → j ≠ 33 → F 500 j = f 500 j
def x_RM (F : Nat → Nat → Int32) (s : xR) (NL k : Nat) (R : Nat → Nat) : Prop := k < NL → ∀ b, b < k → k ≤ s 4 b → s 0 b = 22 → F 515 b = nI (R b - 1)
def x_PV (f : Nat → Nat → Int32) (g : Nat → Nat → Int64) (ρ : Nat → Nat → Option Nat) (dm : List Nat) (n : Nat) (q0 : Nat) (E : xW) : Option Value → xH → Prop := fun q h' => ∃ F, h' = (F, g, ρ, dm, n) ∧ q = none ∧ x_EN f F q0 E.2.2.1 E.2.2.2.1 E.2.2.2.2.1 E.2.2.2.2.2.1 E.2.2.2.2.2.2.1 E.2.2.2.2.2.2.2.1 E.2.2.2.2.2.2.2.2
section C63
variable {f : Nat → Nat → Int32} {g : Nat → Nat → Int64} {r t : Nat} {dm : List Nat} {n d N : Nat} {v : xV} {s : xR} {NL : Nat}
theorem y_fin_N {w : (Nat → Nat) × xV × Nat × Nat × Nat × Nat × Nat × Bool} : y_fin s NL (NL, w) = (NL, w) := y_fin_0 (Nat.lt_irrefl NL)
theorem x_EN_515 {F F' : Nat → Nat → Int32} {q0 ch st mi mo bo : Nat} {le : Bool} (h : x_EN f F q0 v ch st mi mo bo le) (e : ∀ c, c ≠ 515 → F' c = F c) : x_EN f F' q0 v ch st mi mo bo le := by
  unfold x_EN
  rw [e 501 (by decide), e 516 (by decide), e 500 (by decide)]
  exact ⟨h.1, h.2.1, h.2.2.1, fun c a1 a2 a3 a4 a5 a6 => (e c a4).trans (h.2.2.2.1 c a1 a2 a3 a4 a5 a6), h.2.2.2.2⟩
theorem m_lives {seed : Nat} (hM0 : v_M (f 501) 0 v) (hBn : v_Bn N v) (hN : N + 2 ^ 33 < 2 ^ 60) (hSM : x_SM (f 501) s NL) (hS : y_SV s NL (v 2 0 0) (v 0 0 0) (v 1 0 0)) (hs : seed < 65536) : x_Ct 321 (d + 8) [.ref 500, .int (nI seed)] (f, g, x_HR r t, dm, n) (x_PV f g (x_HR r t) dm n (v 16 0 0) (y_fin s NL (0, (fun _ => 0), v, seed, 0, 0, 0, 0, false))) := by
  have hNL := hS.1
  obtain ⟨E, hE⟩ : ∃ E, E = y_fin s NL (0, (fun _ => 0), v, seed, 0, 0, 0, 0, false) := ⟨_, rfl⟩
  rw [← hE]
  have loop : ∀ m k R v1 ch st mi mo bo le F l3, y_mu s NL (k, R, v1, ch, st, mi, mo, bo, le) ≤ m → m ≤ 50000 → y_in s NL N (v 16 0 0) v (k, R, v1, ch, st, mi, mo, bo, le) → y_fin s NL (k, R, v1, ch, st, mi, mo, bo, le) = E → x_EN f F (v 16 0 0) v1 ch st mi mo bo le → x_RM F s NL k R → (k < NL → s 0 k ≠ 23) → x_J 321 (d + 8) (x_PV f g (x_HR r t) dm n (v 16 0 0) E) 32 [some (.ref 500), some (.int (nI seed)), some (.int (nI k)), l3] [] (F, g, x_HR r t, dm, n) 0 0 := by
    intro m
    induction m with
    | zero =>
      intro k R v1 ch st mi mo bo le F l3 h1 h2 h3 h4 h5 h6 h7
      have hk : ¬ k < NL := by
        intro q
        have : y_mu s NL (k, R, v1, ch, st, mi, mo, bo, le) = 1 + 161 * (300 - st) + y_ps s R k := if_pos q
        omega
      have hkN : k = NL := Nat.le_antisymm h3.1 (by omega)
      have hE2 : (k, R, v1, ch, st, mi, mo, bo, le) = E := (y_fin_0 hk).symm.trans h4
      have hl : F 501 11 = nI NL := h5.2.2.1.trans hSM.1
      refine x_wp_ok ok321 [12, 32] 6 ?_
      refine And.intro (x_ix_nI (j := 11) (by decide) (by decide)) ?_
      refine And.intro (fun _ => ?_) (fun c => absurd (show F 501 11 ≤ nI k by rw [hl, hkN]; exact nI_le (Nat.le_refl _) (by omega)) c)
      refine And.intro ?_ ⟨trivial, Nat.le_refl _, Nat.le_refl _⟩
      rw [← hE2]
      exact ⟨F, rfl, rfl, h5⟩
    | succ m ih =>
      intro k R v1 ch st mi mo bo le F l3 h1 h2 h3 h4 h5 h6 h7
      by_cases hk : k < NL
      · have he := h7 hk
        obtain ⟨i1, i2, i3, i4, i5, i6, i7, i8, i9, i10, i11⟩ := id h3
        obtain ⟨a1, a2, a3, a4, a5, a6, a7, a8, a9, a10, a11, a12⟩ := id h5
        have hon := y_in_one hS hN hk h3
        have hfi := (y_fin_one hS hN h3 (by omega) hk).trans h4
        have hl : F 501 11 = nI NL := a3.trans hSM.1
        have hSF : x_SM (F 501) s NL := x_SM_fr hSM a3 a2
        have hB1 := v_Bn_B i7 (by omega)
        have hS1 : y_SV s NL (v1 2 0 0) (v1 0 0 0) (v1 1 0 0) := by
          rw [i8 0 (by decide), i8 1 (by decide), i8 2 (by decide)]
          exact hS
        have hli1 := hS1.2.1 k hk
        have h24 := y_li_24 hli1
        have hw24 := y_om_lt h24.2
        have ix : nI 96 + nI 6 * nI k = nI (96 + 6 * k) := by rw [pk_mul, nI_add]
        by_cases hst : st = 300
        · have eo : y_one s NL (k, R, v1, ch, st, mi, mo, bo, le) = (NL, R, v1, ch, st, mi, mo, bo, true) := (if_neg he).trans (if_pos (by omega))
          rw [eo, y_fin_N] at hfi
          refine x_wp_ok ok321 [12, 32] 6 ?_
          refine And.intro (x_ix_nI (j := 11) (by decide) (by decide)) ?_
          refine And.intro (fun c => absurd (show F 501 11 ≤ nI k from c) (by rw [hl]; exact nI_ge hk (by omega))) (fun _ => ?_)
          refine And.intro (fun c => absurd (show F 500 33 = nI 300 by rw [a11, hst]) c) (fun _ => ?_)
          refine And.intro (x_ix_nI (j := 4) (by decide) (by decide)) ?_
          refine And.intro ?_ ⟨trivial, Nat.le_refl _, Nat.le_refl _⟩
          rw [← hfi]
          exact ⟨_, rfl, rfl, a1, a2, a3, fun c q1 q2 q3 q4 q5 q6 => (x_up_k q5).trans (a4 c q1 q2 q3 q4 q5 q6), (x_up_j (by decide)).trans a5, (x_up_j (by decide)).trans a6, (x_up_j (by decide)).trans a7, (x_up_j (by decide)).trans a8, x_up_s _ _ _ _, a10, a11, a12⟩
        · have hst3 : st < 300 := by omega
          have eo : y_one s NL (k, R, v1, ch, st, mi, mo, bo, le) = (y_nx s NL (x_oV v1 (y_ac s v1 ch k)) k, y_sR s R k, x_oV v1 (y_ac s v1 ch k), y_cc s v1 ch k, st + 1, mi + y_is (y_ac s v1 ch k) 0 1, mo + y_mo s v1 ch k, bo + y_bo s v1 ch k, le) := (if_neg he).trans (if_neg (by omega))
          rw [eo] at hon hfi
          obtain ⟨b, hb⟩ : ∃ b, b = 96 + 6 * k := ⟨_, rfl⟩
          obtain ⟨F1, hF1⟩ : ∃ F1, F1 = x_up F 500 33 (F 500 33 + 1) := ⟨_, rfl⟩
          have f1n : ∀ c, c ≠ 500 → F1 c = F c := fun c hc => by rw [hF1]; exact x_up_k hc
          have f1j : ∀ j, j ≠ 33 → F1 500 j = F 500 j := fun j hj => by rw [hF1]; exact x_up_j hj
          have f13 : F1 500 33 = nI (st + 1) := by rw [hF1, x_up_s, a11, nI_1]
          have hSF1 : x_SM (F1 501) s NL := by rw [f1n 501 (by decide)]; exact hSF
          have w1 : F1 501 b = nI (y_om (s 0 k)) := by rw [hb]; exact (hSF1.2 k hk).1
          have main : x_J 321 (d + 8) (x_PV f g (x_HR r t) dm n (v 16 0 0) E) 79 [some (.ref 500), some (.int (nI seed)), some (.int (nI k)), some (.int (nI b))] [] (F1, g, x_HR r t, dm, n) 0 0 := by
            by_cases z24 : s 0 k = 24
            · have ea : y_ac s v1 ch k = some (1, v1) := y_ac_d (by omega)
              rw [ea, show y_nx s NL (x_oV v1 (some (1, v1))) k = NL from if_pos z24, y_cc_d (by omega), y_mo_d (by omega), y_bo_d (by omega) (by omega), y_fin_N] at hfi
              refine x_wp_ok ok321 [12, 32] 6 ?_
              refine And.intro (x_ix_nI (by omega) (by omega)) ?_
              rw [nI_clamp (by omega)]
              refine And.intro (fun c => absurd (show F1 501 b = nI 21 by rw [w1, z24]; rfl) c) (fun _ => ?_)
              refine And.intro ?_ ⟨trivial, Nat.le_refl _, Nat.le_refl _⟩
              rw [← hfi]
              refine ⟨F1, rfl, rfl, ?_, ?_, ?_, fun c q1 q2 q3 q4 q5 q6 => (f1n c q6).trans (a4 c q1 q2 q3 q4 q5 q6), ?_, ?_, ?_, ?_, ?_, (f1j 32 (by decide)).trans a10, f13, fun j q1 q2 => (f1j j q2).trans (a12 j q1 q2)⟩
              · rw [f1n 501 (by decide)]; exact a1
              · rw [f1n 501 (by decide)]; exact a2
              · rw [f1n 501 (by decide)]; exact a3
              · rw [f1n 516 (by decide)]; exact a5
              · rw [f1n 516 (by decide)]; exact a6
              · rw [f1n 516 (by decide)]; exact a7
              · rw [f1n 516 (by decide)]; exact a8
              · rw [f1n 516 (by decide)]; exact a9
            · obtain ⟨v2, hv2⟩ : ∃ v2, v2 = x_oV v1 (y_ac s v1 ch k) := ⟨_, rfl⟩
              rw [← hv2] at hon hfi
              have hkp := hon.1.2.2.2.2.2.2.1
              have hB2 := v_Bn_B hkp (y_N3 hst3 hN)
              have hi8 := hon.1.2.2.2.2.2.2.2.1
              have hS2 : y_SV s NL (v2 2 0 0) (v2 0 0 0) (v2 1 0 0) := by
                rw [hi8 0 (by decide), hi8 1 (by decide), hi8 2 (by decide)]
                exact hS
              have bel : ∀ F4, x_EN f F4 (v 16 0 0) v2 (y_cc s v1 ch k) (st + 1) (mi + y_is (y_ac s v1 ch k) 0 1) (mo + y_mo s v1 ch k) (bo + y_bo s v1 ch k) le → x_RM F4 s NL (y_nx s NL v2 k) (y_sR s R k) → x_J 321 (d + 8) (x_PV f g (x_HR r t) dm n (v 16 0 0) E) 177 [some (.ref 500), some (.int (nI seed)), some (.int (nI k)), some (.int (nI b))] [.int (nI (y_nx s NL v2 k)), .ref 500] (F4, g, x_HR r t, dm, n) 0 0 := by
                intro F4 c1 c2
                refine x_wp_ok ok321 [12, 32] 6 ?_
                refine Exists.intro _ (And.intro (m_behindEnds (d := d + 7) (v0 := v) (N := N) (q0 := v 16 0 0) (x_SM_fr hSM c1.2.2.1 c1.2.1) hS hN hon.1 (by omega) c2) (And.intro (And.intro (Nat.zero_le _) (Nat.zero_le _)) (fun q h' hpo => ?_)))
                obtain ⟨k', R', F5, rfl, rfl, g1, g2, g3, g4, g5, g6⟩ := hpo
                exact ih k' R' v2 (y_cc s v1 ch k) (st + 1) (mi + y_is (y_ac s v1 ch k) 0 1) (mo + y_mo s v1 ch k) (bo + y_bo s v1 ch k) le F5 (some (.int (nI b))) (by omega) (by omega) g3 (g4.trans hfi) (x_EN_515 c1 g1) g2 g6
              have mid : ∀ F3, x_EN f F3 (v 16 0 0) v2 (y_cc s v1 ch k) (st + 1) (mi + y_is (y_ac s v1 ch k) 0 1) (mo + y_mo s v1 ch k) (bo + y_bo s v1 ch k) le → x_RM F3 s NL k R → x_J 321 (d + 8) (x_PV f g (x_HR r t) dm n (v 16 0 0) E) 113 [some (.ref 500), some (.int (nI seed)), some (.int (nI k)), some (.int (nI b))] [] (F3, g, x_HR r t, dm, n) 0 0 := by
                intro F3 c1 c2
                have hSF3 : x_SM (F3 501) s NL := x_SM_fr hSM c1.2.2.1 c1.2.1
                obtain ⟨u1, u2, u3, u4, u5⟩ := hSF3.2 k hk
                rw [← hb] at u1 u2 u3 u4 u5
                have j1 : nI b + nI 1 = nI (b + 1) := nI_add _ _
                have j4 : nI b + nI 4 = nI (b + 4) := nI_add _ _
                by_cases z22 : s 0 k = 22
                · have er : y_sR s R k = va_up R k (s 3 k) := if_pos z22
                  have en : y_nx s NL v2 k = k + 1 := by
                    unfold y_nx
                    rw [if_neg z24, if_neg]
                    intro q
                    have := of_decide_eq_true q.1
                    omega
                  have hn3 : 1 ≤ s 3 k := by
                    unfold y_li at hli1
                    rw [z22] at hli1
                    omega
                  have v1' : F3 501 (nI b + nI 1).toNatClampNeg = nI (s 3 k) := by rw [j1, nI_clamp (by omega)]; exact u3 (Or.inr z22)
                  have e3 : F3 501 (nI b + nI 1).toNatClampNeg - 1 = nI (s 3 k - 1) := by rw [v1', show (1 : Int32) = nI 1 from rfl, pk_sub hn3]
                  refine x_wp_ok ok321 [12, 32, 177] 6 ?_
                  refine And.intro (x_ix_nI (by omega) (by omega)) ?_
                  rw [nI_clamp (by omega)]
                  refine And.intro (fun c => absurd (show F3 501 b = nI 19 by rw [u1, z22]; rfl) c) (fun _ => ?_)
                  refine And.intro (by show x_ix (nI b + nI 1) 3168; rw [j1]; exact x_ix_nI (by omega) (by omega)) ?_
                  refine And.intro (x_ix_nI (by omega) (by omega)) ?_
                  rw [nI_clamp (by omega)]
                  refine And.intro (x_ix_nI (by omega) (by omega)) ?_
                  rw [nI_clamp (by omega)]
                  refine And.intro (fun _ => ?_) (fun c => absurd (show F3 501 b < nI 1800 by rw [u1, z22]; decide) c)
                  have e := bel (x_up F3 515 k (F3 501 (nI b + nI 1).toNatClampNeg - 1)) (x_EN_515 c1 (fun c q => x_up_k q)) (fun q b' q1 q2 q3 => by
                    rw [er]
                    by_cases hbk : b' = k
                    · rw [hbk, x_up_s, x_us, e3]
                    · have en := y_enc_step (v2 := v2) hS hk q q1 q2 q3 hbk
                      rw [x_up_j hbk, x_un hbk]
                      exact c2 hk b' en.1 en.2 q3)
                  rw [en, ← nI_1] at e
                  exact e
                · have er : y_sR s R k = R := if_neg z22
                  have n19 : ¬ y_om (s 0 k) = 19 := by
                    intro q
                    unfold y_om at q
                    split at q
                    · omega
                    · split at q <;> omega
                  have hrm : x_RM F3 s NL (y_nx s NL v2 k) (y_sR s R k) := by
                    intro q b' q1 q2 q3
                    rw [er]
                    have hbk : b' ≠ k := fun z => z22 (z ▸ q3)
                    have en := y_enc_step (v2 := v2) hS hk q q1 q2 q3 hbk
                    exact c2 hk b' en.1 en.2 q3
                  have e := bel F3 c1 hrm
                  refine x_wp_ok ok321 [12, 32, 177] 6 ?_
                  refine And.intro (x_ix_nI (by omega) (by omega)) ?_
                  rw [nI_clamp (by omega)]
                  refine And.intro (fun _ => ?_) (fun c => absurd (show F3 501 b = nI 19 from c) (by rw [u1, nI_eq (by omega) (by decide)]; exact n19))
                  refine And.intro (x_ix_nI (by omega) (by omega)) ?_
                  rw [nI_clamp (by omega)]
                  by_cases zw : 18 ≤ s 0 k ∧ s 0 k ≤ 20
                  · have hwn : y_wn s k = true := decide_eq_true (by omega)
                    have u5 := u5 (by omega) (by omega)
                    have v4 : F3 501 (nI b + nI 4).toNatClampNeg = nI (s 4 k) := by rw [j4, nI_clamp (by omega)]; exact u5
                    refine And.intro (fun c => absurd (show F3 501 b < nI 1800 from c) (by
                      rw [u1]
                      refine nI_nlt ?_ (by omega)
                      unfold y_om
                      rw [if_neg (by omega), if_pos (by omega)]
                      omega)) (fun _ => ?_)
                    refine Exists.intro _ (And.intro (m_holds (d := d + 4) (v := v2) c1.1 hB2 hSF3 hNL hk (hS2.2.1 k hk) zw hb) (And.intro (And.intro (Nat.zero_le _) (Nat.zero_le _)) (fun q h' hpo => ?_)))
                    obtain ⟨rfl, rfl⟩ := hpo
                    cases ht : y_te s v2 k with
                    | false =>
                      have en : y_nx s NL v2 k = s 4 k + 1 := by
                        unfold y_nx
                        rw [if_neg z24, if_pos ⟨hwn, ht⟩]
                      refine And.intro (fun c => absurd rfl c) (fun _ => ?_)
                      refine And.intro (by show x_ix (nI b + nI 4) 3168; rw [j4]; exact x_ix_nI (by omega) (by omega)) ?_
                      rw [en, ← nI_1, ← v4] at e
                      exact e
                    | true =>
                      have en : y_nx s NL v2 k = k + 1 := by
                        unfold y_nx
                        rw [if_neg z24, if_neg (fun q => absurd (ht.symm.trans q.2) (by decide))]
                      refine And.intro (fun _ => ?_) (fun c => absurd (show (1 : Int32) = 0 from c) (by decide))
                      rw [en, ← nI_1] at e
                      exact e
                  · have hwn : ¬ y_wn s k = true := by
                      intro q
                      have := of_decide_eq_true q
                      omega
                    have en : y_nx s NL v2 k = k + 1 := by
                      unfold y_nx
                      rw [if_neg z24, if_neg (fun q => hwn q.1)]
                    refine And.intro (fun _ => ?_) (fun c => absurd (show F3 501 b < nI 1800 by
                      rw [u1]
                      refine nI_lt ?_ (by decide)
                      unfold y_om
                      split
                      · omega
                      · split <;> omega) c)
                    rw [en, ← nI_1] at e
                    exact e
              have dn := m_does (d := d) (f := F1) (g := g) (r := r) (t := t) (dm := dm) (n := n) (v := v1) (s := s) (NL := NL) (ch := ch) (mo := mo) (bo := bo) (q0 := v 16 0 0) (k := k) (b := b) (by rw [f1n 501 (by decide)]; exact a1) i7 (by omega) hSF1 hNL hk hli1 he i3 hb i9 (by rw [f1n 516 (by decide)]; exact a6) (by rw [f1n 516 (by decide)]; exact a7) (by rw [f1n 516 (by decide)]; exact a8) ((f1j 32 (by decide)).trans a10)
              refine x_wp_ok ok321 [12, 32, 113] 6 ?_
              refine And.intro (x_ix_nI (by omega) (by omega)) ?_
              rw [nI_clamp (by omega)]
              refine And.intro (fun _ => ?_) (fun c => absurd (show F1 501 b = nI 21 from c) (by
                rw [w1, nI_eq (by omega) (by decide)]
                unfold y_om
                split
                · omega
                · split <;> omega))
              refine And.intro (x_ix_nI (j := 0) (by decide) (by decide)) ?_
              refine Exists.intro _ (And.intro dn (And.intro (And.intro (Nat.zero_le _) (Nat.zero_le _)) (fun q h' hpo => ?_)))
              obtain ⟨F2, rfl, rfl, hF2⟩ := hpo
              rw [← hv2] at hF2
              obtain ⟨b1, b2, b3, b4, b5, b6, b7, b8, b9, b10⟩ := hF2
              have rest : ∀ y, nI y = nI (mi + y_is (y_ac s v1 ch k) 0 1) → x_J 321 (d + 8) (x_PV f g (x_HR r t) dm n (v 16 0 0) E) 113 [some (.ref 500), some (.int (nI seed)), some (.int (nI k)), some (.int (nI b))] [] (x_up F2 516 0 (nI y), g, x_HR r t, dm, n) 0 0 := by
                intro y hy
                refine mid (x_up F2 516 0 (nI y)) ⟨b1, fun j q => (b2 j q).trans (by rw [f1n 501 (by decide)]; exact a2 j q), b3.trans (by rw [f1n 501 (by decide)]; exact a3), fun c q1 q2 q3 q4 q5 q6 => (x_up_k q5).trans ((b4 c q1 q2 q3 q5 q6).trans ((f1n c q6).trans (a4 c q1 q2 q3 q4 q5 q6))), (x_up_s _ _ _ _).trans hy, (x_up_j (by decide)).trans b5, (x_up_j (by decide)).trans b6, (x_up_j (by decide)).trans b7, (x_up_j (by decide)).trans ((b8 4 (by decide) (by decide) (by decide)).trans (by rw [f1n 516 (by decide)]; exact a9)), b9, (b10 33 (by decide)).trans f13, fun j q1 q2 => (b10 j q1).trans ((f1j j q2).trans (a12 j q1 q2))⟩ ?_
                intro q b' q1 q2 q3
                rw [x_up_k (by decide), b4 515 (by decide) (by decide) (by decide) (by decide) (by decide), f1n 515 (by decide)]
                exact h6 q b' q1 q2 q3
              have e0 : F1 516 0 = nI mi := by rw [f1n 516 (by decide)]; exact a5
              cases ho : y_ac s v1 ch k with
              | none =>
                refine And.intro (fun _ => ?_) (fun c => absurd rfl c)
                refine And.intro (x_ix_nI (j := 0) (by decide) (by decide)) ?_
                have e := rest (mi + 1) (by rw [ho]; rfl)
                rw [← nI_1, ← e0] at e
                exact e
              | some z =>
                refine And.intro (fun c => absurd (show (1 : Int32) = 0 from c) (by decide)) (fun _ => ?_)
                refine And.intro (x_ix_nI (j := 0) (by decide) (by decide)) ?_
                have e := rest mi (by rw [ho]; rfl)
                rw [← e0, show F1 516 0 = F1 516 0 + 0 from (Int32.add_zero _).symm] at e
                exact e
          refine x_wp_ok ok321 [12, 32, 79] 6 ?_
          refine And.intro (x_ix_nI (j := 11) (by decide) (by decide)) ?_
          refine And.intro (fun c => absurd (show F 501 11 ≤ nI k from c) (by rw [hl]; exact nI_ge hk (by omega))) (fun _ => ?_)
          refine And.intro (fun _ => ?_) (fun c => absurd (show F 500 33 = nI 300 from c) (by rw [a11, nI_eq (by omega) (by decide)]; exact hst))
          rw [hF1, hb, ← ix] at main
          exact main
      · exact ih k R v1 ch st mi mo bo le F l3 (by
          rw [show y_mu s NL (k, R, v1, ch, st, mi, mo, bo, le) = 0 from if_neg hk]
          exact Nat.zero_le _) (by omega) h3 h4 h5 h6 h7
  obtain ⟨F0, hF0⟩ : ∃ F0, F0 = x_up (x_up f 500 32 (nI seed)) 500 33 0 := ⟨_, rfl⟩
  have f0n : ∀ c, c ≠ 500 → F0 c = f c := fun c hc => by rw [hF0]; exact (x_up_k hc).trans (x_up_k hc)
  have zero : ∀ m i F l3, i + m = 5 → (∀ c, c ≠ 516 → F c = F0 c) → (∀ j, j < i → F 516 j = 0) → x_J 321 (d + 8) (x_PV f g (x_HR r t) dm n (v 16 0 0) E) 12 [some (.ref 500), some (.int (nI seed)), some (.int (nI i)), l3] [] (F, g, x_HR r t, dm, n) 0 0 := by
    intro m
    induction m with
    | zero =>
      intro i F l3 hi h1 h2
      obtain rfl : i = 5 := by omega
      refine x_wp_ok ok321 [12, 32] 6 ?_
      refine And.intro (fun _ => ?_) (fun c => absurd (show nI 5 ≤ nI 5 by decide) c)
      refine loop 50000 0 (fun _ => 0) v seed 0 0 0 0 false F l3 (y_mu_0 hS) (Nat.le_refl _) (y_in_0 hBn hs) hE.symm ⟨?_, fun j _ => ?_, ?_, fun c q1 q2 q3 q4 q5 q6 => (h1 c q5).trans (f0n c q6), h2 0 (by decide), h2 1 (by decide), h2 2 (by decide), ?_, h2 4 (by decide), ?_, ?_, fun j q1 q2 => ?_⟩ (fun _ b hb => absurd hb (Nat.not_lt_zero _)) (fun hk q => Nat.not_lt_zero _ (y_SV_end hS hk q).1)
      · rw [h1 501 (by decide), f0n 501 (by decide)]; exact hM0
      · rw [h1 501 (by decide), f0n 501 (by decide)]
      · rw [h1 501 (by decide), f0n 501 (by decide)]
      · rw [h2 3 (by decide), Nat.sub_self]; rfl
      · rw [h1 500 (by decide), hF0]; rfl
      · rw [h1 500 (by decide), hF0]; rfl
      · rw [h1 500 (by decide), hF0]; exact (x_up_j q2).trans (x_up_j q1)
    | succ m ih =>
      intro i F l3 hi h1 h2
      refine x_wp_ok ok321 [12, 32] 6 ?_
      refine And.intro (fun c => absurd (show nI 5 ≤ nI i from c) (nI_ge (by omega) (by decide))) (fun _ => ?_)
      refine And.intro (x_ix_nI (by omega) (by omega)) ?_
      rw [nI_clamp (by omega)]
      have e := ih (i + 1) (x_up F 516 i 0) l3 (by omega) (fun c q => (x_up_k q).trans (h1 c q)) (fun j q => by
        by_cases hj : j = i
        · rw [hj, x_up_s]
        · rw [x_up_j hj]
          exact h2 j (by omega))
      rw [← nI_1o] at e
      exact e
  refine x_Ct_w (by decide) (Nat.le_of_ble_eq_true rfl) ok321 [12, 32] 6 ?_
  have e := zero 5 0 F0 none (by decide) (fun _ _ => rfl) (fun j q => absurd q (Nat.not_lt_zero _))
  rw [hF0] at e
  exact e
end C63
