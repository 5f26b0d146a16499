/-! a life as the class unfolds it -/
def x_EC (f : Nat → Nat → Int32) (g : Nat → Nat → Int64) (L e : Nat) (s : xR) (NL : Nat) (F : Nat → Nat → Int32) (G : Nat → Nat → Int64) : xW → Prop := fun (k, R, v, ch, st, mi, mo, bo, le) =>
  v_C F G L v ∧ F e 2 = nI ch ∧ F e 3 = nI st ∧ F e 4 = nI mi ∧ F e 5 = nI mo ∧ F e 6 = nI bo ∧ F e 8 = x_bo le ∧ (k < NL → ∀ b, b < k → k ≤ s 4 b → s 0 b = 22 → F (e + 1) b = nI (R b)) ∧ (∀ c, c < L ∨ L + 9 < c → c ≠ 100 → c ≠ e → c ≠ e + 1 → F c = f c) ∧ (∀ c, c < L ∨ L + 9 < c → c ≠ 100 → c ≠ e → G c = g c) ∧ G (L + 2) = g (L + 2)
def x_PU (f : Nat → Nat → Int32) (g : Nat → Nat → Int64) (L e : Nat) (s : xR) (NL : Nat) (ρ : Nat → Nat → Option Nat) (dm : List Nat) (n : Nat) (q0 : Nat) (E : xW) : Option Value → xH → Prop := fun q h' => ∃ F G, h' = (F, G, ρ, dm, n) ∧ q = none ∧ x_EC f g L e s NL F G E ∧ G e 7 = lN (E.2.2.1 16 0 0 - q0)
theorem x_SC_fr {f F : Nat → Nat → Int32} {t : Nat} {s : xR} {NL : Nat} (h : x_SC f t s NL) (e : ∀ c, t ≤ c → c ≤ t + 6 → F c = f c) : x_SC F t s NL := by
  unfold x_SC
  rw [e t (by omega) (by omega), e (t + 1) (by omega) (by omega), e (t + 2) (by omega) (by omega), e (t + 3) (by omega) (by omega), e (t + 4) (by omega) (by omega), e (t + 5) (by omega) (by omega), e (t + 6) (by omega) (by omega)]
  exact h
theorem y_N3 {N st : Nat} (h : st < 300) (hN : N + 2 ^ 33 < 2 ^ 60) : N + 998001 * (st + 1) < 2 ^ 60 := by
  have h1 : N + 998001 * (st + 1) ≤ N + 998001 * 300 := Nat.add_le_add_left (Nat.mul_le_mul_left 998001 h) N
  have h2 : N + 998001 * 300 < 2 ^ 60 := by omega
  exact Nat.lt_of_le_of_lt h1 h2
section C60
variable {f : Nat → Nat → Int32} {g : Nat → Nat → Int64} {r t : Nat} {dm : List Nat} {n d N : Nat} {v : xV} {s : xR} {NL : Nat} {ρ : Nat → Nat → Option Nat}
theorem y_in_0 {v0 : xV} {seed : Nat} (hBn : v_Bn N v0) (hs : seed < 65536) : y_in s NL N (v0 16 0 0) v0 (0, (fun _ => 0), v0, seed, 0, 0, 0, 0, false) := ⟨Nat.zero_le _, Nat.zero_le _, hs, Nat.le_refl _, Nat.zero_le _, Nat.zero_le _, v_Bn_mono hBn (by omega), fun _ _ => rfl, Nat.le_refl _, by omega, fun _ b hb => absurd hb (Nat.not_lt_zero _)⟩
theorem y_mu_0 {P K G : Nat} (hS : y_SV s NL P K G) {R : Nat → Nat} {v0 : xV} {seed : Nat} : y_mu s NL (0, R, v0, seed, 0, 0, 0, 0, false) ≤ 50000 := by
  show (if 0 < NL then 1 + 161 * (300 - 0) + y_ps s R 0 else 0) ≤ 50000
  split
  · rename_i h
    have : y_ps s R 0 = 0 := if_neg (fun q => Nat.not_lt_zero _ (y_SV_end hS h q).1)
    omega
  · omega
theorem c_unfold_12_32_102 {seed : Nat} (hC : v_C f g 12 v) (hBn : v_Bn N v) (hN : N + 2 ^ 33 < 2 ^ 60) (hSC : x_SC f 32 s NL) (hS : y_SV s NL (v 2 0 0) (v 0 0 0) (v 1 0 0)) (hs : seed < 65536) : x_Ct 45 (d + 5) [.ref 102, .ref 12, .ref 32, .int (nI seed)] (f, g, x_HR r t, dm, n) (x_PU f g 12 102 s NL (x_HR r t) dm n (v 16 0 0) (y_fin s NL (0, (fun _ => 0), v, seed, 0, 0, 0, 0, false))) := by
  have hNL := hS.1
  obtain ⟨E, hE⟩ : ∃ E, E = y_fin s NL (0, (fun _ => 0), v, seed, 0, 0, 0, 0, false) := ⟨_, rfl⟩
  rw [← hE]
  have fin : ∀ F G x i, x_EC f g 12 102 s NL F G E → v 16 0 0 ≤ E.2.2.1 16 0 0 → x_J 45 (d + 5) (x_PU f g 12 102 s NL (x_HR r t) dm n (v 16 0 0) E) 159 [some (.ref 102), some (.ref 12), some (.ref 32), some (.int (nI seed)), some (.long (lN (v 16 0 0))), none, some (.int x), some (.int i)] [] (F, G, x_HR r t, dm, n) 0 0 := by
    intro F G x i hF hq
    obtain ⟨k, R, v1, ch, st, mi, mo, bo, le⟩ := E
    obtain ⟨a1, a2, a3, a4, a5, a6, a7, a8, a9, a10, a11⟩ := hF
    have a16 : G 12 6 = lN (v1 16 0 0) := a1.2.1
    refine x_wp_ok ok45 [] 6 ?_
    refine And.intro ?_ ⟨trivial, Nat.le_refl _, Nat.le_refl _⟩
    refine ⟨_, _, rfl, rfl, ⟨v_C_fr a1 (fun _ _ _ => rfl) (x_un (by decide)), a2, a3, a4, a5, a6, a7, a8, a9, fun c h1 h2 h3 => (x_un h3).trans (a10 c h1 h2 h3), (x_un (by decide)).trans a11⟩, ?_⟩
    unfold x_up
    rw [x_us, x_us]
    show G 12 6 - lN (v 16 0 0) = _
    rw [a16]
    exact lN_sub hq
  have loop : ∀ m i F G x k R v1 ch st mi mo bo le, y_mu s NL (k, R, v1, ch, st, mi, mo, bo, le) ≤ m → m ≤ 50000 → i + m ≤ 60000 → y_in s NL N (v 16 0 0) v (k, R, v1, ch, st, mi, mo, bo, le) → y_fin s NL (k, R, v1, ch, st, mi, mo, bo, le) = E → x_EC f g 12 102 s NL F G (k, R, v1, ch, st, mi, mo, bo, le) → (x = nI k ∨ (x = -1 ∧ ¬ k < NL)) → x_J 45 (d + 5) (x_PU f g 12 102 s NL (x_HR r t) dm n (v 16 0 0) E) 42 [some (.ref 102), some (.ref 12), some (.ref 32), some (.int (nI seed)), some (.long (lN (v 16 0 0))), none, some (.int x), some (.int (nI i))] [] (F, G, x_HR r t, dm, n) 0 0 := by
    intro m
    induction m with
    | zero =>
      intro i F G x k R v1 ch st mi mo bo le h1 h2 h3 h4 h5 h6 h7
      have hk : ¬ k < NL := by
        intro q
        have : y_mu s NL (k, R, v1, ch, st, mi, mo, bo, le) = 1 + 161 * (300 - st) + y_ps s R k := if_pos q
        omega
      have hE2 : (k, R, v1, ch, st, mi, mo, bo, le) = E := (y_fin_0 hk).symm.trans h5
      have hkN : k = NL := Nat.le_antisymm h4.1 (by omega)
      have hq0 : v 16 0 0 ≤ v1 16 0 0 := h4.2.2.2.2.2.2.2.2.1
      have e := fin F G x (nI i) (hE2 ▸ h6) (hE2 ▸ hq0)
      have hl : F 32 2 = nI NL := by rw [h6.2.2.2.2.2.2.2.2.1 32 (by decide) (by decide) (by decide) (by decide)]; exact hSC.1
      refine x_wp_ok ok45 [159] 6 ?_
      refine And.intro (fun c => absurd (show nI 1000000 ≤ nI i from c) (nI_ge (by omega) (by decide))) (fun _ => ?_)
      refine And.intro (fun c => ?_) (fun c => ?_)
      · exact e
      · refine And.intro (fun c2 => ?_) (fun c2 => ?_)
        · exact e
        · have c2 : ¬ F 32 2 ≤ x := c2
          rcases h7 with q | ⟨q, _⟩
          · rw [hl, q, hkN] at c2
            exact absurd (nI_le (Nat.le_refl _) (by omega)) c2
          · have c : ¬ x < 0 := c
            rw [q] at c
            exact absurd (by decide) c
    | succ m ih =>
      intro i F G x k R v1 ch st mi mo bo le h1 h2 h3 h4 h5 h6 h7
      by_cases hk : k < NL
      · obtain ⟨i1, i2, i3, i4, i5, i6, i7, i8, i9, i10, i11⟩ := id h4
        obtain ⟨a1, a2, a3, a4, a5, a6, a7, a8, a9, a10, a11⟩ := id h6
        have hon := y_in_one hS hN hk h4
        have hfi := (y_fin_one hS hN h4 (by omega) hk).trans h5
        have hx : x = nI k := h7.resolve_right (fun q => q.2 hk)
        subst hx
        have hB1 := v_Bn_B i7 (by omega)
        have hS1 : y_SV s NL (v1 2 0 0) (v1 0 0 0) (v1 1 0 0) := by
          rw [i8 0 (by decide), i8 1 (by decide), i8 2 (by decide)]
          exact hS
        have hSF : x_SC F 32 s NL := x_SC_fr hSC (fun c q1 q2 => a9 c (by omega) (by omega) (by omega) (by omega))
        have hl : F 32 2 = nI NL := hSF.1
        have hw : F 33 k = nI (y_wd (s 0 k)) := (hSF.2 k hk).1
        have h24 := y_li_24 (hS.2.1 k hk)
        have hw24 := y_wd_24 h24.2
        have hli1 := hS1.2.1 k hk
        refine x_wp_ok ok45 [42, 143] 9 ?_
        refine And.intro (fun c => absurd (show nI 1000000 ≤ nI i from c) (nI_ge (by omega) (by decide))) (fun _ => ?_)
        refine And.intro (fun c => absurd (show nI k < 0 from c) (nI_pos (by omega))) (fun _ => ?_)
        refine And.intro (fun c => absurd (show F 32 2 ≤ nI k from c) (by rw [hl]; exact nI_ge hk (by omega))) (fun _ => ?_)
        refine And.intro (x_ix_nI (by omega) (by omega)) ?_
        rw [nI_clamp (by omega)]
        refine And.intro (fun c => ?_) (fun c => ?_)
        · have c : ¬ F 33 k = nI 23 := c
          rw [hw, nI_eq (by omega) (by decide)] at c
          have he : s 0 k ≠ 23 := by
            intro q
            apply c
            rw [q]
            rfl
          refine And.intro (fun c2 => ?_) (fun c2 => ?_)
          · have c2 : F 102 3 < nI 300 := c2
            rw [a3, nI_ltI (by omega) (by decide)] at c2
            have eo : y_one s NL (k, R, v1, ch, st, mi, mo, bo, le) = (y_nx s NL (x_oV v1 (y_ac s v1 ch k)) k, y_sR s R k, x_oV v1 (y_ac s v1 ch k), y_cc s v1 ch k, st + 1, mi + y_is (y_ac s v1 ch k) 0 1, mo + y_mo s v1 ch k, bo + y_bo s v1 ch k, le) := (if_neg he).trans (if_neg (by omega))
            rw [eo] at hon hfi
            obtain ⟨v2, hv2⟩ : ∃ v2, v2 = x_oV v1 (y_ac s v1 ch k) := ⟨_, rfl⟩
            have e3 : F 102 3 + 1 = nI (st + 1) := by rw [a3, nI_1]
            obtain ⟨F1, hF1⟩ : ∃ F1, F1 = x_up F 102 3 (F 102 3 + 1) := ⟨_, rfl⟩
            have f1n : ∀ c, c ≠ 102 → F1 c = F c := fun c hc => by rw [hF1]; exact x_un hc
            have f1j : ∀ j, j ≠ 3 → F1 102 j = F 102 j := fun j hj => by
              rw [hF1]
              unfold x_up
              rw [x_us, x_un hj]
            have f13 : F1 102 3 = nI (st + 1) := by
              rw [hF1, ← e3]
              unfold x_up
              rw [x_us, x_us]
            have dn := c_isDone_12_32_102 (d := d) (f := F1) (g := G) (r := r) (t := t) (dm := dm) (n := n) (ch := ch) (mo := mo) (bo := bo) (v_C_fr a1 (fun c q1 q2 => f1n c (by omega)) rfl) i7 (by omega) (x_SC_fr hSF (fun c q1 q2 => f1n c (by omega))) hNL hk hli1 he i3 ((f1j 2 (by decide)).trans a2) ((f1j 5 (by decide)).trans a5) ((f1j 6 (by decide)).trans a6)
            rw [hF1] at dn
            refine Exists.intro _ (And.intro dn (And.intro (And.intro (Nat.zero_le _) (Nat.zero_le _)) (fun q h' hpo => ?_)))
            obtain ⟨F2, G2, rfl, rfl, hF2⟩ := hpo
            rw [← hF1, ← hv2] at hF2
            obtain ⟨b1, b2, b3, b4, b5, b6, b7, b8⟩ := hF2
            have b84 : F2 102 4 = nI mi := (b8 4 (by decide) (by decide) (by decide)).trans ((f1j 4 (by decide)).trans a4)
            have rest : ∀ y, y = mi + y_is (y_ac s v1 ch k) 0 1 → x_J 45 (d + 5) (x_PU f g 12 102 s NL (x_HR r t) dm n (v 16 0 0) E) 143 [some (.ref 102), some (.ref 12), some (.ref 32), some (.int (nI seed)), some (.long (lN (v 16 0 0))), none, some (.int (nI k)), some (.int (nI i))] [] (x_up F2 102 4 (nI y), G2, x_HR r t, dm, n) 0 0 := by
              intro y hy
              obtain ⟨F3, hF3⟩ : ∃ F3, F3 = x_up F2 102 4 (nI y) := ⟨_, rfl⟩
              have f3n : ∀ c, c ≠ 102 → F3 c = F2 c := fun c hc => by rw [hF3]; exact x_un hc
              have f3j : ∀ j, j ≠ 4 → F3 102 j = F2 102 j := fun j hj => by
                rw [hF3]
                unfold x_up
                rw [x_us, x_un hj]
              have f34 : F3 102 4 = nI y := by
                rw [hF3]
                unfold x_up
                rw [x_us, x_us]
              have hon := hon
              have hfi := hfi
              rw [← hv2] at hon hfi
              have f3F : ∀ c, c < 12 ∨ 12 + 9 < c → c ≠ 100 → c ≠ 102 → F3 c = F c := fun c q1 q2 q3 => (f3n c q3).trans ((b3 c q1 q2 q3).trans (f1n c q3))
              have hkp := hon.1.2.2.2.2.2.2.1
              have hB2 := v_Bn_B hkp (y_N3 c2 hN)
              have hS2 : y_SV s NL (v2 2 0 0) (v2 0 0 0) (v2 1 0 0) := by
                have i8 := hon.1.2.2.2.2.2.2.2.1
                rw [i8 0 (by decide), i8 1 (by decide), i8 2 (by decide)]
                exact hS
              have vc3 : v_C F3 G2 12 v2 := v_C_fr b1 (fun c q1 q2 => f3n c (by omega)) rfl
              have ls := c_lineAfterStep_12_32_102 (d := d) (f := F3) (g := G2) (r := r) (t := t) (dm := dm) (n := n) (R := R) vc3 hB2 (x_SC_fr hSF (fun c q1 q2 => f3F c (by omega) (by omega) (by omega))) hS2 hk he
              rw [← hF3]
              refine x_wp_ok ok45 [42] 6 ?_
              refine Exists.intro _ (And.intro ls (And.intro (And.intro (Nat.zero_le _) (Nat.zero_le _)) (fun q h' hpo => ?_)))
              obtain ⟨rfl, F4, rfl, g1, g2⟩ := hpo
              have e2 : F4 102 = F3 102 := g1 102 (by decide)
              have ee := ih (i + 1) F4 G2 (if s 0 k = 24 then -1 else nI (y_nx s NL v2 k)) (y_nx s NL v2 k) (y_sR s R k) v2 (y_cc s v1 ch k) (st + 1) (mi + y_is (y_ac s v1 ch k) 0 1) (mo + y_mo s v1 ch k) (bo + y_bo s v1 ch k) le (by omega) (by omega) (by omega) hon.1 hfi ⟨v_C_fr vc3 (fun c q1 q2 => g1 c (by omega)) rfl, by rw [e2, f3j 2 (by decide)]; exact b5, by rw [e2, f3j 3 (by decide), b8 3 (by decide) (by decide) (by decide)]; exact f13, by rw [e2, f34, hy], by rw [e2, f3j 5 (by decide)]; exact b6, by rw [e2, f3j 6 (by decide)]; exact b7, by rw [e2, f3j 8 (by decide), b8 8 (by decide) (by decide) (by decide), f1j 8 (by decide)]; exact a7, fun q b q1 q2 q3 => ?_, fun c q1 q2 q3 q4 => (g1 c q4).trans ((f3F c q1 q2 q3).trans (a9 c q1 q2 q3 q4)), fun c q1 q2 q3 => (b4 c q1 q2).trans (a10 c q1 q2 q3), b2.trans a11⟩ ?_
              · rw [← nI_1o] at ee
                exact ee
              · apply g2
                by_cases hbk : b = k
                · exact Or.inr ⟨hbk, hbk ▸ q3⟩
                · refine Or.inl ?_
                  rw [f3F 103 (by decide) (by decide) (by decide)]
                  have key : b < k ∧ k ≤ s 4 b := by
                    have hb0 : y_op s b := Or.inr q3
                    have hnx : y_nx s NL v2 k = s 4 k + 1 ∧ y_op s k ∨ y_nx s NL v2 k = k + 1 := by
                      by_cases z24 : s 0 k = 24
                      · rw [show y_nx s NL v2 k = NL from if_pos z24] at q
                        exact absurd q (Nat.lt_irrefl _)
                      · by_cases zw : y_wn s k = true ∧ y_te s v2 k = false
                        · exact Or.inl ⟨(if_neg z24).trans (if_pos zw), Or.inl (of_decide_eq_true zw.1)⟩
                        · exact Or.inr ((if_neg z24).trans (if_neg zw))
                    rcases hnx with ⟨ez, hop⟩ | ez
                    · rw [ez] at q1 q2
                      have hp := hS.2.2.1 k hk hop
                      have hb4 : b ≠ s 4 k := fun q => by rw [q] at q3; omega
                      by_cases hlt : b < k
                      · omega
                      · have := hS.2.2.2.2 k b (by omega) (by omega) hp.2.1 hop hb0
                        omega
                    · rw [ez] at q1 q2
                      omega
                  exact a8 hk b key.1 key.2 q3
              · by_cases z24 : s 0 k = 24
                · exact Or.inr ⟨if_pos z24, by rw [show y_nx s NL v2 k = NL from if_pos z24]; exact Nat.lt_irrefl _⟩
                · exact Or.inl (if_neg z24)
            cases ho : y_ac s v1 ch k with
            | none =>
              refine And.intro (fun _ => ?_) (fun c => absurd rfl c)
              have e := rest (mi + 1) (by rw [ho]; rfl)
              rw [← nI_1, ← a4, ← (show x_up F 102 3 (F 102 3 + 1) 102 4 = F 102 4 from rfl)] at e
              exact e
            | some z =>
              refine And.intro (fun c => absurd (show (1 : Int32) = 0 from c) (by decide)) (fun _ => ?_)
              have e := rest mi (by rw [ho]; rfl)
              rw [← a4, show F 102 4 = F 102 4 + 0 from (Int32.add_zero _).symm, ← (show x_up F 102 3 (F 102 3 + 1) 102 4 = F 102 4 from rfl)] at e
              exact e
          · have c2 : ¬ F 102 3 < nI 300 := c2
            rw [a3, nI_ltI (by omega) (by decide)] at c2
            have eo : y_one s NL (k, R, v1, ch, st, mi, mo, bo, le) = (NL, R, v1, ch, st, mi, mo, bo, true) := (if_neg he).trans (if_pos (by omega))
            rw [eo] at hon hfi
            have up : ∀ j, j ≠ 8 → x_up F 102 8 1 102 j = F 102 j := fun j hj => by
              unfold x_up
              rw [x_us, x_un hj]
            refine And.intro (Or.inr rfl) ?_
            have ee := ih (i + 1) (x_up F 102 8 1) G (-1) NL R v1 ch st mi mo bo true (by omega) (by omega) (by omega) hon.1 hfi ⟨v_C_fr a1 (fun c q1 q2 => x_un (by omega)) rfl, by rw [up 2 (by decide)]; exact a2, by rw [up 3 (by decide)]; exact a3, by rw [up 4 (by decide)]; exact a4, by rw [up 5 (by decide)]; exact a5, by rw [up 6 (by decide)]; exact a6, by unfold x_up; rw [x_us, x_us]; rfl, fun q => absurd q (Nat.lt_irrefl _), fun c q1 q2 q3 q4 => (x_un q3).trans (a9 c q1 q2 q3 q4), a10, a11⟩ (Or.inr ⟨rfl, Nat.lt_irrefl _⟩)
            rw [← nI_1o] at ee
            exact ee
        · have c : F 33 k = nI 23 := c
          rw [hw, nI_eq (by omega) (by decide)] at c
          have he : s 0 k = 23 := by
            unfold y_wd at c
            split at c <;> omega
          obtain ⟨e1, e2, e3⟩ := y_SV_end hS hk he
          have eo : y_one s NL (k, R, v1, ch, st, mi, mo, bo, le) = (y_ek s R k, y_eR s R k, v1, ch, st, mi, mo, bo, le) := if_pos he
          rw [eo] at hon hfi
          have le := c_lineAfterEnd_32_102 (d := d + 4) (f := F) (g := G) (r := r) (t := t) (dm := dm) (n := n) (R := R) hSF hS1 hk he (fun q => ⟨a8 hk (s 4 k) e1 (by omega) q, i11 hk (s 4 k) e1 (by omega) q⟩)
          refine Exists.intro _ (And.intro le (And.intro (And.intro (Nat.zero_le _) (Nat.zero_le _)) (fun q h' hpo => ?_)))
          obtain ⟨rfl, F4, rfl, g1, g2⟩ := hpo
          have ez : F4 102 = F 102 := g1 102 (by decide)
          have ee := ih (i + 1) F4 G (nI (y_ek s R k)) (y_ek s R k) (y_eR s R k) v1 ch st mi mo bo _ (by omega) (by omega) (by omega) hon.1 hfi ⟨v_C_fr a1 (fun c q1 q2 => g1 c (by omega)) rfl, by rw [ez]; exact a2, by rw [ez]; exact a3, by rw [ez]; exact a4, by rw [ez]; exact a5, by rw [ez]; exact a6, by rw [ez]; exact a7, fun q b q1 q2 q3 => ?_, fun c q1 q2 q3 q4 => (g1 c q4).trans (a9 c q1 q2 q3 q4), a10, a11⟩ (Or.inl rfl)
          · rw [← nI_1o] at ee
            exact ee
          · apply g2
            have hb0 : y_op s b := Or.inr q3
            have key : b < k ∧ k ≤ s 4 b := by
              have hek : (y_ek s R k = s 4 k + 1) ∨ y_ek s R k = k + 1 := by
                unfold y_ek
                split
                · exact Or.inl rfl
                · exact Or.inr rfl
              rcases hek with ez | ez
              · rw [ez] at q1 q2
                by_cases hbb : b = s 4 k
                · rw [hbb, e3]
                  omega
                · have hp := hS.2.2.1 b (by omega) hb0
                  have := hS.2.2.2.2 b (s 4 k) (by omega) (by omega) hp.2.1 hb0 e2
                  omega
              · rw [ez] at q1 q2
                have hbk : b ≠ k := fun q => by rw [q] at q3; omega
                omega
            exact a8 hk b key.1 key.2 q3
      · exact ih i F G x k R v1 ch st mi mo bo le (by
          rw [show y_mu s NL (k, R, v1, ch, st, mi, mo, bo, le) = 0 from if_neg hk]
          exact Nat.zero_le _) (by omega) (by omega) h4 h5 h6 h7
  have h16 : g 12 6 = lN (v 16 0 0) := hC.2.1
  obtain ⟨F, hF⟩ : ∃ F, F = x_up (x_up (x_up (x_up (x_up (x_up f 102 2 (nI seed)) 102 3 0) 102 4 0) 102 5 0) 102 6 0) 102 8 0 := ⟨_, rfl⟩
  have fn : ∀ c, c ≠ 102 → F c = f c := fun c hc => by rw [hF]; exact (x_un hc).trans ((x_un hc).trans ((x_un hc).trans ((x_un hc).trans ((x_un hc).trans (x_un hc)))))
  have ee := loop 50000 0 F g 0 0 (fun _ => 0) v seed 0 0 0 0 false (y_mu_0 hS) (Nat.le_refl _) (by decide) (y_in_0 hBn hs) hE.symm ⟨v_C_fr hC (fun c q1 q2 => fn c (by omega)) rfl, by rw [hF]; rfl, by rw [hF]; rfl, by rw [hF]; rfl, by rw [hF]; rfl, by rw [hF]; rfl, by rw [hF]; rfl, fun _ b hb => absurd hb (Nat.not_lt_zero _), fun c _ _ q3 _ => fn c q3, fun _ _ _ _ => rfl, rfl⟩ (Or.inl rfl)
  refine x_Ct_w (by decide) (Nat.le_of_ble_eq_true rfl) ok45 [42] 6 ?_
  refine And.intro (Or.inl rfl) ?_
  rw [hF, ← h16] at ee
  exact ee
theorem c_unfold_22_32_102 {seed : Nat} (hC : v_C f g 22 v) (hBn : v_Bn N v) (hN : N + 2 ^ 33 < 2 ^ 60) (hSC : x_SC f 32 s NL) (hS : y_SV s NL (v 2 0 0) (v 0 0 0) (v 1 0 0)) (hs : seed < 65536) : x_Ct 45 (d + 5) [.ref 102, .ref 22, .ref 32, .int (nI seed)] (f, g, x_HR r t, dm, n) (x_PU f g 22 102 s NL (x_HR r t) dm n (v 16 0 0) (y_fin s NL (0, (fun _ => 0), v, seed, 0, 0, 0, 0, false))) := by
  have hNL := hS.1
  obtain ⟨E, hE⟩ : ∃ E, E = y_fin s NL (0, (fun _ => 0), v, seed, 0, 0, 0, 0, false) := ⟨_, rfl⟩
  rw [← hE]
  have fin : ∀ F G x i, x_EC f g 22 102 s NL F G E → v 16 0 0 ≤ E.2.2.1 16 0 0 → x_J 45 (d + 5) (x_PU f g 22 102 s NL (x_HR r t) dm n (v 16 0 0) E) 159 [some (.ref 102), some (.ref 22), some (.ref 32), some (.int (nI seed)), some (.long (lN (v 16 0 0))), none, some (.int x), some (.int i)] [] (F, G, x_HR r t, dm, n) 0 0 := by
    intro F G x i hF hq
    obtain ⟨k, R, v1, ch, st, mi, mo, bo, le⟩ := E
    obtain ⟨a1, a2, a3, a4, a5, a6, a7, a8, a9, a10, a11⟩ := hF
    have a16 : G 22 6 = lN (v1 16 0 0) := a1.2.1
    refine x_wp_ok ok45 [] 6 ?_
    refine And.intro ?_ ⟨trivial, Nat.le_refl _, Nat.le_refl _⟩
    refine ⟨_, _, rfl, rfl, ⟨v_C_fr a1 (fun _ _ _ => rfl) (x_un (by decide)), a2, a3, a4, a5, a6, a7, a8, a9, fun c h1 h2 h3 => (x_un h3).trans (a10 c h1 h2 h3), (x_un (by decide)).trans a11⟩, ?_⟩
    unfold x_up
    rw [x_us, x_us]
    show G 22 6 - lN (v 16 0 0) = _
    rw [a16]
    exact lN_sub hq
  have loop : ∀ m i F G x k R v1 ch st mi mo bo le, y_mu s NL (k, R, v1, ch, st, mi, mo, bo, le) ≤ m → m ≤ 50000 → i + m ≤ 60000 → y_in s NL N (v 16 0 0) v (k, R, v1, ch, st, mi, mo, bo, le) → y_fin s NL (k, R, v1, ch, st, mi, mo, bo, le) = E → x_EC f g 22 102 s NL F G (k, R, v1, ch, st, mi, mo, bo, le) → (x = nI k ∨ (x = -1 ∧ ¬ k < NL)) → x_J 45 (d + 5) (x_PU f g 22 102 s NL (x_HR r t) dm n (v 16 0 0) E) 42 [some (.ref 102), some (.ref 22), some (.ref 32), some (.int (nI seed)), some (.long (lN (v 16 0 0))), none, some (.int x), some (.int (nI i))] [] (F, G, x_HR r t, dm, n) 0 0 := by
    intro m
    induction m with
    | zero =>
      intro i F G x k R v1 ch st mi mo bo le h1 h2 h3 h4 h5 h6 h7
      have hk : ¬ k < NL := by
        intro q
        have : y_mu s NL (k, R, v1, ch, st, mi, mo, bo, le) = 1 + 161 * (300 - st) + y_ps s R k := if_pos q
        omega
      have hE2 : (k, R, v1, ch, st, mi, mo, bo, le) = E := (y_fin_0 hk).symm.trans h5
      have hkN : k = NL := Nat.le_antisymm h4.1 (by omega)
      have hq0 : v 16 0 0 ≤ v1 16 0 0 := h4.2.2.2.2.2.2.2.2.1
      have e := fin F G x (nI i) (hE2 ▸ h6) (hE2 ▸ hq0)
      have hl : F 32 2 = nI NL := by rw [h6.2.2.2.2.2.2.2.2.1 32 (by decide) (by decide) (by decide) (by decide)]; exact hSC.1
      refine x_wp_ok ok45 [159] 6 ?_
      refine And.intro (fun c => absurd (show nI 1000000 ≤ nI i from c) (nI_ge (by omega) (by decide))) (fun _ => ?_)
      refine And.intro (fun c => ?_) (fun c => ?_)
      · exact e
      · refine And.intro (fun c2 => ?_) (fun c2 => ?_)
        · exact e
        · have c2 : ¬ F 32 2 ≤ x := c2
          rcases h7 with q | ⟨q, _⟩
          · rw [hl, q, hkN] at c2
            exact absurd (nI_le (Nat.le_refl _) (by omega)) c2
          · have c : ¬ x < 0 := c
            rw [q] at c
            exact absurd (by decide) c
    | succ m ih =>
      intro i F G x k R v1 ch st mi mo bo le h1 h2 h3 h4 h5 h6 h7
      by_cases hk : k < NL
      · obtain ⟨i1, i2, i3, i4, i5, i6, i7, i8, i9, i10, i11⟩ := id h4
        obtain ⟨a1, a2, a3, a4, a5, a6, a7, a8, a9, a10, a11⟩ := id h6
        have hon := y_in_one hS hN hk h4
        have hfi := (y_fin_one hS hN h4 (by omega) hk).trans h5
        have hx : x = nI k := h7.resolve_right (fun q => q.2 hk)
        subst hx
        have hB1 := v_Bn_B i7 (by omega)
        have hS1 : y_SV s NL (v1 2 0 0) (v1 0 0 0) (v1 1 0 0) := by
          rw [i8 0 (by decide), i8 1 (by decide), i8 2 (by decide)]
          exact hS
        have hSF : x_SC F 32 s NL := x_SC_fr hSC (fun c q1 q2 => a9 c (by omega) (by omega) (by omega) (by omega))
        have hl : F 32 2 = nI NL := hSF.1
        have hw : F 33 k = nI (y_wd (s 0 k)) := (hSF.2 k hk).1
        have h24 := y_li_24 (hS.2.1 k hk)
        have hw24 := y_wd_24 h24.2
        have hli1 := hS1.2.1 k hk
        refine x_wp_ok ok45 [42, 143] 9 ?_
        refine And.intro (fun c => absurd (show nI 1000000 ≤ nI i from c) (nI_ge (by omega) (by decide))) (fun _ => ?_)
        refine And.intro (fun c => absurd (show nI k < 0 from c) (nI_pos (by omega))) (fun _ => ?_)
        refine And.intro (fun c => absurd (show F 32 2 ≤ nI k from c) (by rw [hl]; exact nI_ge hk (by omega))) (fun _ => ?_)
        refine And.intro (x_ix_nI (by omega) (by omega)) ?_
        rw [nI_clamp (by omega)]
        refine And.intro (fun c => ?_) (fun c => ?_)
        · have c : ¬ F 33 k = nI 23 := c
          rw [hw, nI_eq (by omega) (by decide)] at c
          have he : s 0 k ≠ 23 := by
            intro q
            apply c
            rw [q]
            rfl
          refine And.intro (fun c2 => ?_) (fun c2 => ?_)
          · have c2 : F 102 3 < nI 300 := c2
            rw [a3, nI_ltI (by omega) (by decide)] at c2
            have eo : y_one s NL (k, R, v1, ch, st, mi, mo, bo, le) = (y_nx s NL (x_oV v1 (y_ac s v1 ch k)) k, y_sR s R k, x_oV v1 (y_ac s v1 ch k), y_cc s v1 ch k, st + 1, mi + y_is (y_ac s v1 ch k) 0 1, mo + y_mo s v1 ch k, bo + y_bo s v1 ch k, le) := (if_neg he).trans (if_neg (by omega))
            rw [eo] at hon hfi
            obtain ⟨v2, hv2⟩ : ∃ v2, v2 = x_oV v1 (y_ac s v1 ch k) := ⟨_, rfl⟩
            have e3 : F 102 3 + 1 = nI (st + 1) := by rw [a3, nI_1]
            obtain ⟨F1, hF1⟩ : ∃ F1, F1 = x_up F 102 3 (F 102 3 + 1) := ⟨_, rfl⟩
            have f1n : ∀ c, c ≠ 102 → F1 c = F c := fun c hc => by rw [hF1]; exact x_un hc
            have f1j : ∀ j, j ≠ 3 → F1 102 j = F 102 j := fun j hj => by
              rw [hF1]
              unfold x_up
              rw [x_us, x_un hj]
            have f13 : F1 102 3 = nI (st + 1) := by
              rw [hF1, ← e3]
              unfold x_up
              rw [x_us, x_us]
            have dn := c_isDone_22_32_102 (d := d) (f := F1) (g := G) (r := r) (t := t) (dm := dm) (n := n) (ch := ch) (mo := mo) (bo := bo) (v_C_fr a1 (fun c q1 q2 => f1n c (by omega)) rfl) i7 (by omega) (x_SC_fr hSF (fun c q1 q2 => f1n c (by omega))) hNL hk hli1 he i3 ((f1j 2 (by decide)).trans a2) ((f1j 5 (by decide)).trans a5) ((f1j 6 (by decide)).trans a6)
            rw [hF1] at dn
            refine Exists.intro _ (And.intro dn (And.intro (And.intro (Nat.zero_le _) (Nat.zero_le _)) (fun q h' hpo => ?_)))
            obtain ⟨F2, G2, rfl, rfl, hF2⟩ := hpo
            rw [← hF1, ← hv2] at hF2
            obtain ⟨b1, b2, b3, b4, b5, b6, b7, b8⟩ := hF2
            have b84 : F2 102 4 = nI mi := (b8 4 (by decide) (by decide) (by decide)).trans ((f1j 4 (by decide)).trans a4)
            have rest : ∀ y, y = mi + y_is (y_ac s v1 ch k) 0 1 → x_J 45 (d + 5) (x_PU f g 22 102 s NL (x_HR r t) dm n (v 16 0 0) E) 143 [some (.ref 102), some (.ref 22), some (.ref 32), some (.int (nI seed)), some (.long (lN (v 16 0 0))), none, some (.int (nI k)), some (.int (nI i))] [] (x_up F2 102 4 (nI y), G2, x_HR r t, dm, n) 0 0 := by
              intro y hy
              obtain ⟨F3, hF3⟩ : ∃ F3, F3 = x_up F2 102 4 (nI y) := ⟨_, rfl⟩
              have f3n : ∀ c, c ≠ 102 → F3 c = F2 c := fun c hc => by rw [hF3]; exact x_un hc
              have f3j : ∀ j, j ≠ 4 → F3 102 j = F2 102 j := fun j hj => by
                rw [hF3]
                unfold x_up
                rw [x_us, x_un hj]
              have f34 : F3 102 4 = nI y := by
                rw [hF3]
                unfold x_up
                rw [x_us, x_us]
              have hon := hon
              have hfi := hfi
              rw [← hv2] at hon hfi
              have f3F : ∀ c, c < 22 ∨ 22 + 9 < c → c ≠ 100 → c ≠ 102 → F3 c = F c := fun c q1 q2 q3 => (f3n c q3).trans ((b3 c q1 q2 q3).trans (f1n c q3))
              have hkp := hon.1.2.2.2.2.2.2.1
              have hB2 := v_Bn_B hkp (y_N3 c2 hN)
              have hS2 : y_SV s NL (v2 2 0 0) (v2 0 0 0) (v2 1 0 0) := by
                have i8 := hon.1.2.2.2.2.2.2.2.1
                rw [i8 0 (by decide), i8 1 (by decide), i8 2 (by decide)]
                exact hS
              have vc3 : v_C F3 G2 22 v2 := v_C_fr b1 (fun c q1 q2 => f3n c (by omega)) rfl
              have ls := c_lineAfterStep_22_32_102 (d := d) (f := F3) (g := G2) (r := r) (t := t) (dm := dm) (n := n) (R := R) vc3 hB2 (x_SC_fr hSF (fun c q1 q2 => f3F c (by omega) (by omega) (by omega))) hS2 hk he
              rw [← hF3]
              refine x_wp_ok ok45 [42] 6 ?_
              refine Exists.intro _ (And.intro ls (And.intro (And.intro (Nat.zero_le _) (Nat.zero_le _)) (fun q h' hpo => ?_)))
              obtain ⟨rfl, F4, rfl, g1, g2⟩ := hpo
              have e2 : F4 102 = F3 102 := g1 102 (by decide)
              have ee := ih (i + 1) F4 G2 (if s 0 k = 24 then -1 else nI (y_nx s NL v2 k)) (y_nx s NL v2 k) (y_sR s R k) v2 (y_cc s v1 ch k) (st + 1) (mi + y_is (y_ac s v1 ch k) 0 1) (mo + y_mo s v1 ch k) (bo + y_bo s v1 ch k) le (by omega) (by omega) (by omega) hon.1 hfi ⟨v_C_fr vc3 (fun c q1 q2 => g1 c (by omega)) rfl, by rw [e2, f3j 2 (by decide)]; exact b5, by rw [e2, f3j 3 (by decide), b8 3 (by decide) (by decide) (by decide)]; exact f13, by rw [e2, f34, hy], by rw [e2, f3j 5 (by decide)]; exact b6, by rw [e2, f3j 6 (by decide)]; exact b7, by rw [e2, f3j 8 (by decide), b8 8 (by decide) (by decide) (by decide), f1j 8 (by decide)]; exact a7, fun q b q1 q2 q3 => ?_, fun c q1 q2 q3 q4 => (g1 c q4).trans ((f3F c q1 q2 q3).trans (a9 c q1 q2 q3 q4)), fun c q1 q2 q3 => (b4 c q1 q2).trans (a10 c q1 q2 q3), b2.trans a11⟩ ?_
              · rw [← nI_1o] at ee
                exact ee
              · apply g2
                by_cases hbk : b = k
                · exact Or.inr ⟨hbk, hbk ▸ q3⟩
                · refine Or.inl ?_
                  rw [f3F 103 (by decide) (by decide) (by decide)]
                  have key : b < k ∧ k ≤ s 4 b := by
                    have hb0 : y_op s b := Or.inr q3
                    have hnx : y_nx s NL v2 k = s 4 k + 1 ∧ y_op s k ∨ y_nx s NL v2 k = k + 1 := by
                      by_cases z24 : s 0 k = 24
                      · rw [show y_nx s NL v2 k = NL from if_pos z24] at q
                        exact absurd q (Nat.lt_irrefl _)
                      · by_cases zw : y_wn s k = true ∧ y_te s v2 k = false
                        · exact Or.inl ⟨(if_neg z24).trans (if_pos zw), Or.inl (of_decide_eq_true zw.1)⟩
                        · exact Or.inr ((if_neg z24).trans (if_neg zw))
                    rcases hnx with ⟨ez, hop⟩ | ez
                    · rw [ez] at q1 q2
                      have hp := hS.2.2.1 k hk hop
                      have hb4 : b ≠ s 4 k := fun q => by rw [q] at q3; omega
                      by_cases hlt : b < k
                      · omega
                      · have := hS.2.2.2.2 k b (by omega) (by omega) hp.2.1 hop hb0
                        omega
                    · rw [ez] at q1 q2
                      omega
                  exact a8 hk b key.1 key.2 q3
              · by_cases z24 : s 0 k = 24
                · exact Or.inr ⟨if_pos z24, by rw [show y_nx s NL v2 k = NL from if_pos z24]; exact Nat.lt_irrefl _⟩
                · exact Or.inl (if_neg z24)
            cases ho : y_ac s v1 ch k with
            | none =>
              refine And.intro (fun _ => ?_) (fun c => absurd rfl c)
              have e := rest (mi + 1) (by rw [ho]; rfl)
              rw [← nI_1, ← a4, ← (show x_up F 102 3 (F 102 3 + 1) 102 4 = F 102 4 from rfl)] at e
              exact e
            | some z =>
              refine And.intro (fun c => absurd (show (1 : Int32) = 0 from c) (by decide)) (fun _ => ?_)
              have e := rest mi (by rw [ho]; rfl)
              rw [← a4, show F 102 4 = F 102 4 + 0 from (Int32.add_zero _).symm, ← (show x_up F 102 3 (F 102 3 + 1) 102 4 = F 102 4 from rfl)] at e
              exact e
          · have c2 : ¬ F 102 3 < nI 300 := c2
            rw [a3, nI_ltI (by omega) (by decide)] at c2
            have eo : y_one s NL (k, R, v1, ch, st, mi, mo, bo, le) = (NL, R, v1, ch, st, mi, mo, bo, true) := (if_neg he).trans (if_pos (by omega))
            rw [eo] at hon hfi
            have up : ∀ j, j ≠ 8 → x_up F 102 8 1 102 j = F 102 j := fun j hj => by
              unfold x_up
              rw [x_us, x_un hj]
            refine And.intro (Or.inr rfl) ?_
            have ee := ih (i + 1) (x_up F 102 8 1) G (-1) NL R v1 ch st mi mo bo true (by omega) (by omega) (by omega) hon.1 hfi ⟨v_C_fr a1 (fun c q1 q2 => x_un (by omega)) rfl, by rw [up 2 (by decide)]; exact a2, by rw [up 3 (by decide)]; exact a3, by rw [up 4 (by decide)]; exact a4, by rw [up 5 (by decide)]; exact a5, by rw [up 6 (by decide)]; exact a6, by unfold x_up; rw [x_us, x_us]; rfl, fun q => absurd q (Nat.lt_irrefl _), fun c q1 q2 q3 q4 => (x_un q3).trans (a9 c q1 q2 q3 q4), a10, a11⟩ (Or.inr ⟨rfl, Nat.lt_irrefl _⟩)
            rw [← nI_1o] at ee
            exact ee
        · have c : F 33 k = nI 23 := c
          rw [hw, nI_eq (by omega) (by decide)] at c
          have he : s 0 k = 23 := by
            unfold y_wd at c
            split at c <;> omega
          obtain ⟨e1, e2, e3⟩ := y_SV_end hS hk he
          have eo : y_one s NL (k, R, v1, ch, st, mi, mo, bo, le) = (y_ek s R k, y_eR s R k, v1, ch, st, mi, mo, bo, le) := if_pos he
          rw [eo] at hon hfi
          have le := c_lineAfterEnd_32_102 (d := d + 4) (f := F) (g := G) (r := r) (t := t) (dm := dm) (n := n) (R := R) hSF hS1 hk he (fun q => ⟨a8 hk (s 4 k) e1 (by omega) q, i11 hk (s 4 k) e1 (by omega) q⟩)
          refine Exists.intro _ (And.intro le (And.intro (And.intro (Nat.zero_le _) (Nat.zero_le _)) (fun q h' hpo => ?_)))
          obtain ⟨rfl, F4, rfl, g1, g2⟩ := hpo
          have ez : F4 102 = F 102 := g1 102 (by decide)
          have ee := ih (i + 1) F4 G (nI (y_ek s R k)) (y_ek s R k) (y_eR s R k) v1 ch st mi mo bo _ (by omega) (by omega) (by omega) hon.1 hfi ⟨v_C_fr a1 (fun c q1 q2 => g1 c (by omega)) rfl, by rw [ez]; exact a2, by rw [ez]; exact a3, by rw [ez]; exact a4, by rw [ez]; exact a5, by rw [ez]; exact a6, by rw [ez]; exact a7, fun q b q1 q2 q3 => ?_, fun c q1 q2 q3 q4 => (g1 c q4).trans (a9 c q1 q2 q3 q4), a10, a11⟩ (Or.inl rfl)
          · rw [← nI_1o] at ee
            exact ee
          · apply g2
            have hb0 : y_op s b := Or.inr q3
            have key : b < k ∧ k ≤ s 4 b := by
              have hek : (y_ek s R k = s 4 k + 1) ∨ y_ek s R k = k + 1 := by
                unfold y_ek
                split
                · exact Or.inl rfl
                · exact Or.inr rfl
              rcases hek with ez | ez
              · rw [ez] at q1 q2
                by_cases hbb : b = s 4 k
                · rw [hbb, e3]
                  omega
                · have hp := hS.2.2.1 b (by omega) hb0
                  have := hS.2.2.2.2 b (s 4 k) (by omega) (by omega) hp.2.1 hb0 e2
                  omega
              · rw [ez] at q1 q2
                have hbk : b ≠ k := fun q => by rw [q] at q3; omega
                omega
            exact a8 hk b key.1 key.2 q3
      · exact ih i F G x k R v1 ch st mi mo bo le (by
          rw [show y_mu s NL (k, R, v1, ch, st, mi, mo, bo, le) = 0 from if_neg hk]
          exact Nat.zero_le _) (by omega) (by omega) h4 h5 h6 h7
  have h16 : g 22 6 = lN (v 16 0 0) := hC.2.1
  obtain ⟨F, hF⟩ : ∃ F, F = x_up (x_up (x_up (x_up (x_up (x_up f 102 2 (nI seed)) 102 3 0) 102 4 0) 102 5 0) 102 6 0) 102 8 0 := ⟨_, rfl⟩
  have fn : ∀ c, c ≠ 102 → F c = f c := fun c hc => by rw [hF]; exact (x_un hc).trans ((x_un hc).trans ((x_un hc).trans ((x_un hc).trans ((x_un hc).trans (x_un hc)))))
  have ee := loop 50000 0 F g 0 0 (fun _ => 0) v seed 0 0 0 0 false (y_mu_0 hS) (Nat.le_refl _) (by decide) (y_in_0 hBn hs) hE.symm ⟨v_C_fr hC (fun c q1 q2 => fn c (by omega)) rfl, by rw [hF]; rfl, by rw [hF]; rfl, by rw [hF]; rfl, by rw [hF]; rfl, by rw [hF]; rfl, by rw [hF]; rfl, fun _ b hb => absurd hb (Nat.not_lt_zero _), fun c _ _ q3 _ => fn c q3, fun _ _ _ _ => rfl, rfl⟩ (Or.inl rfl)
  refine x_Ct_w (by decide) (Nat.le_of_ble_eq_true rfl) ok45 [42] 6 ?_
  refine And.intro (Or.inl rfl) ?_
  rw [hF, ← h16] at ee
  exact ee
theorem c_unfold_12_32_104 {seed : Nat} (hC : v_C f g 12 v) (hBn : v_Bn N v) (hN : N + 2 ^ 33 < 2 ^ 60) (hSC : x_SC f 32 s NL) (hS : y_SV s NL (v 2 0 0) (v 0 0 0) (v 1 0 0)) (hs : seed < 65536) : x_Ct 45 (d + 5) [.ref 104, .ref 12, .ref 32, .int (nI seed)] (f, g, x_HR r t, dm, n) (x_PU f g 12 104 s NL (x_HR r t) dm n (v 16 0 0) (y_fin s NL (0, (fun _ => 0), v, seed, 0, 0, 0, 0, false))) := by
  have hNL := hS.1
  obtain ⟨E, hE⟩ : ∃ E, E = y_fin s NL (0, (fun _ => 0), v, seed, 0, 0, 0, 0, false) := ⟨_, rfl⟩
  rw [← hE]
  have fin : ∀ F G x i, x_EC f g 12 104 s NL F G E → v 16 0 0 ≤ E.2.2.1 16 0 0 → x_J 45 (d + 5) (x_PU f g 12 104 s NL (x_HR r t) dm n (v 16 0 0) E) 159 [some (.ref 104), some (.ref 12), some (.ref 32), some (.int (nI seed)), some (.long (lN (v 16 0 0))), none, some (.int x), some (.int i)] [] (F, G, x_HR r t, dm, n) 0 0 := by
    intro F G x i hF hq
    obtain ⟨k, R, v1, ch, st, mi, mo, bo, le⟩ := E
    obtain ⟨a1, a2, a3, a4, a5, a6, a7, a8, a9, a10, a11⟩ := hF
    have a16 : G 12 6 = lN (v1 16 0 0) := a1.2.1
    refine x_wp_ok ok45 [] 6 ?_
    refine And.intro ?_ ⟨trivial, Nat.le_refl _, Nat.le_refl _⟩
    refine ⟨_, _, rfl, rfl, ⟨v_C_fr a1 (fun _ _ _ => rfl) (x_un (by decide)), a2, a3, a4, a5, a6, a7, a8, a9, fun c h1 h2 h3 => (x_un h3).trans (a10 c h1 h2 h3), (x_un (by decide)).trans a11⟩, ?_⟩
    unfold x_up
    rw [x_us, x_us]
    show G 12 6 - lN (v 16 0 0) = _
    rw [a16]
    exact lN_sub hq
  have loop : ∀ m i F G x k R v1 ch st mi mo bo le, y_mu s NL (k, R, v1, ch, st, mi, mo, bo, le) ≤ m → m ≤ 50000 → i + m ≤ 60000 → y_in s NL N (v 16 0 0) v (k, R, v1, ch, st, mi, mo, bo, le) → y_fin s NL (k, R, v1, ch, st, mi, mo, bo, le) = E → x_EC f g 12 104 s NL F G (k, R, v1, ch, st, mi, mo, bo, le) → (x = nI k ∨ (x = -1 ∧ ¬ k < NL)) → x_J 45 (d + 5) (x_PU f g 12 104 s NL (x_HR r t) dm n (v 16 0 0) E) 42 [some (.ref 104), some (.ref 12), some (.ref 32), some (.int (nI seed)), some (.long (lN (v 16 0 0))), none, some (.int x), some (.int (nI i))] [] (F, G, x_HR r t, dm, n) 0 0 := by
    intro m
    induction m with
    | zero =>
      intro i F G x k R v1 ch st mi mo bo le h1 h2 h3 h4 h5 h6 h7
      have hk : ¬ k < NL := by
        intro q
        have : y_mu s NL (k, R, v1, ch, st, mi, mo, bo, le) = 1 + 161 * (300 - st) + y_ps s R k := if_pos q
        omega
      have hE2 : (k, R, v1, ch, st, mi, mo, bo, le) = E := (y_fin_0 hk).symm.trans h5
      have hkN : k = NL := Nat.le_antisymm h4.1 (by omega)
      have hq0 : v 16 0 0 ≤ v1 16 0 0 := h4.2.2.2.2.2.2.2.2.1
      have e := fin F G x (nI i) (hE2 ▸ h6) (hE2 ▸ hq0)
      have hl : F 32 2 = nI NL := by rw [h6.2.2.2.2.2.2.2.2.1 32 (by decide) (by decide) (by decide) (by decide)]; exact hSC.1
      refine x_wp_ok ok45 [159] 6 ?_
      refine And.intro (fun c => absurd (show nI 1000000 ≤ nI i from c) (nI_ge (by omega) (by decide))) (fun _ => ?_)
      refine And.intro (fun c => ?_) (fun c => ?_)
      · exact e
      · refine And.intro (fun c2 => ?_) (fun c2 => ?_)
        · exact e
        · have c2 : ¬ F 32 2 ≤ x := c2
          rcases h7 with q | ⟨q, _⟩
          · rw [hl, q, hkN] at c2
            exact absurd (nI_le (Nat.le_refl _) (by omega)) c2
          · have c : ¬ x < 0 := c
            rw [q] at c
            exact absurd (by decide) c
    | succ m ih =>
      intro i F G x k R v1 ch st mi mo bo le h1 h2 h3 h4 h5 h6 h7
      by_cases hk : k < NL
      · obtain ⟨i1, i2, i3, i4, i5, i6, i7, i8, i9, i10, i11⟩ := id h4
        obtain ⟨a1, a2, a3, a4, a5, a6, a7, a8, a9, a10, a11⟩ := id h6
        have hon := y_in_one hS hN hk h4
        have hfi := (y_fin_one hS hN h4 (by omega) hk).trans h5
        have hx : x = nI k := h7.resolve_right (fun q => q.2 hk)
        subst hx
        have hB1 := v_Bn_B i7 (by omega)
        have hS1 : y_SV s NL (v1 2 0 0) (v1 0 0 0) (v1 1 0 0) := by
          rw [i8 0 (by decide), i8 1 (by decide), i8 2 (by decide)]
          exact hS
        have hSF : x_SC F 32 s NL := x_SC_fr hSC (fun c q1 q2 => a9 c (by omega) (by omega) (by omega) (by omega))
        have hl : F 32 2 = nI NL := hSF.1
        have hw : F 33 k = nI (y_wd (s 0 k)) := (hSF.2 k hk).1
        have h24 := y_li_24 (hS.2.1 k hk)
        have hw24 := y_wd_24 h24.2
        have hli1 := hS1.2.1 k hk
        refine x_wp_ok ok45 [42, 143] 9 ?_
        refine And.intro (fun c => absurd (show nI 1000000 ≤ nI i from c) (nI_ge (by omega) (by decide))) (fun _ => ?_)
        refine And.intro (fun c => absurd (show nI k < 0 from c) (nI_pos (by omega))) (fun _ => ?_)
        refine And.intro (fun c => absurd (show F 32 2 ≤ nI k from c) (by rw [hl]; exact nI_ge hk (by omega))) (fun _ => ?_)
        refine And.intro (x_ix_nI (by omega) (by omega)) ?_
        rw [nI_clamp (by omega)]
        refine And.intro (fun c => ?_) (fun c => ?_)
        · have c : ¬ F 33 k = nI 23 := c
          rw [hw, nI_eq (by omega) (by decide)] at c
          have he : s 0 k ≠ 23 := by
            intro q
            apply c
            rw [q]
            rfl
          refine And.intro (fun c2 => ?_) (fun c2 => ?_)
          · have c2 : F 104 3 < nI 300 := c2
            rw [a3, nI_ltI (by omega) (by decide)] at c2
            have eo : y_one s NL (k, R, v1, ch, st, mi, mo, bo, le) = (y_nx s NL (x_oV v1 (y_ac s v1 ch k)) k, y_sR s R k, x_oV v1 (y_ac s v1 ch k), y_cc s v1 ch k, st + 1, mi + y_is (y_ac s v1 ch k) 0 1, mo + y_mo s v1 ch k, bo + y_bo s v1 ch k, le) := (if_neg he).trans (if_neg (by omega))
            rw [eo] at hon hfi
            obtain ⟨v2, hv2⟩ : ∃ v2, v2 = x_oV v1 (y_ac s v1 ch k) := ⟨_, rfl⟩
            have e3 : F 104 3 + 1 = nI (st + 1) := by rw [a3, nI_1]
            obtain ⟨F1, hF1⟩ : ∃ F1, F1 = x_up F 104 3 (F 104 3 + 1) := ⟨_, rfl⟩
            have f1n : ∀ c, c ≠ 104 → F1 c = F c := fun c hc => by rw [hF1]; exact x_un hc
            have f1j : ∀ j, j ≠ 3 → F1 104 j = F 104 j := fun j hj => by
              rw [hF1]
              unfold x_up
              rw [x_us, x_un hj]
            have f13 : F1 104 3 = nI (st + 1) := by
              rw [hF1, ← e3]
              unfold x_up
              rw [x_us, x_us]
            have dn := c_isDone_12_32_104 (d := d) (f := F1) (g := G) (r := r) (t := t) (dm := dm) (n := n) (ch := ch) (mo := mo) (bo := bo) (v_C_fr a1 (fun c q1 q2 => f1n c (by omega)) rfl) i7 (by omega) (x_SC_fr hSF (fun c q1 q2 => f1n c (by omega))) hNL hk hli1 he i3 ((f1j 2 (by decide)).trans a2) ((f1j 5 (by decide)).trans a5) ((f1j 6 (by decide)).trans a6)
            rw [hF1] at dn
            refine Exists.intro _ (And.intro dn (And.intro (And.intro (Nat.zero_le _) (Nat.zero_le _)) (fun q h' hpo => ?_)))
            obtain ⟨F2, G2, rfl, rfl, hF2⟩ := hpo
            rw [← hF1, ← hv2] at hF2
            obtain ⟨b1, b2, b3, b4, b5, b6, b7, b8⟩ := hF2
            have b84 : F2 104 4 = nI mi := (b8 4 (by decide) (by decide) (by decide)).trans ((f1j 4 (by decide)).trans a4)
            have rest : ∀ y, y = mi + y_is (y_ac s v1 ch k) 0 1 → x_J 45 (d + 5) (x_PU f g 12 104 s NL (x_HR r t) dm n (v 16 0 0) E) 143 [some (.ref 104), some (.ref 12), some (.ref 32), some (.int (nI seed)), some (.long (lN (v 16 0 0))), none, some (.int (nI k)), some (.int (nI i))] [] (x_up F2 104 4 (nI y), G2, x_HR r t, dm, n) 0 0 := by
              intro y hy
              obtain ⟨F3, hF3⟩ : ∃ F3, F3 = x_up F2 104 4 (nI y) := ⟨_, rfl⟩
              have f3n : ∀ c, c ≠ 104 → F3 c = F2 c := fun c hc => by rw [hF3]; exact x_un hc
              have f3j : ∀ j, j ≠ 4 → F3 104 j = F2 104 j := fun j hj => by
                rw [hF3]
                unfold x_up
                rw [x_us, x_un hj]
              have f34 : F3 104 4 = nI y := by
                rw [hF3]
                unfold x_up
                rw [x_us, x_us]
              have hon := hon
              have hfi := hfi
              rw [← hv2] at hon hfi
              have f3F : ∀ c, c < 12 ∨ 12 + 9 < c → c ≠ 100 → c ≠ 104 → F3 c = F c := fun c q1 q2 q3 => (f3n c q3).trans ((b3 c q1 q2 q3).trans (f1n c q3))
              have hkp := hon.1.2.2.2.2.2.2.1
              have hB2 := v_Bn_B hkp (y_N3 c2 hN)
              have hS2 : y_SV s NL (v2 2 0 0) (v2 0 0 0) (v2 1 0 0) := by
                have i8 := hon.1.2.2.2.2.2.2.2.1
                rw [i8 0 (by decide), i8 1 (by decide), i8 2 (by decide)]
                exact hS
              have vc3 : v_C F3 G2 12 v2 := v_C_fr b1 (fun c q1 q2 => f3n c (by omega)) rfl
              have ls := c_lineAfterStep_12_32_104 (d := d) (f := F3) (g := G2) (r := r) (t := t) (dm := dm) (n := n) (R := R) vc3 hB2 (x_SC_fr hSF (fun c q1 q2 => f3F c (by omega) (by omega) (by omega))) hS2 hk he
              rw [← hF3]
              refine x_wp_ok ok45 [42] 6 ?_
              refine Exists.intro _ (And.intro ls (And.intro (And.intro (Nat.zero_le _) (Nat.zero_le _)) (fun q h' hpo => ?_)))
              obtain ⟨rfl, F4, rfl, g1, g2⟩ := hpo
              have e2 : F4 104 = F3 104 := g1 104 (by decide)
              have ee := ih (i + 1) F4 G2 (if s 0 k = 24 then -1 else nI (y_nx s NL v2 k)) (y_nx s NL v2 k) (y_sR s R k) v2 (y_cc s v1 ch k) (st + 1) (mi + y_is (y_ac s v1 ch k) 0 1) (mo + y_mo s v1 ch k) (bo + y_bo s v1 ch k) le (by omega) (by omega) (by omega) hon.1 hfi ⟨v_C_fr vc3 (fun c q1 q2 => g1 c (by omega)) rfl, by rw [e2, f3j 2 (by decide)]; exact b5, by rw [e2, f3j 3 (by decide), b8 3 (by decide) (by decide) (by decide)]; exact f13, by rw [e2, f34, hy], by rw [e2, f3j 5 (by decide)]; exact b6, by rw [e2, f3j 6 (by decide)]; exact b7, by rw [e2, f3j 8 (by decide), b8 8 (by decide) (by decide) (by decide), f1j 8 (by decide)]; exact a7, fun q b q1 q2 q3 => ?_, fun c q1 q2 q3 q4 => (g1 c q4).trans ((f3F c q1 q2 q3).trans (a9 c q1 q2 q3 q4)), fun c q1 q2 q3 => (b4 c q1 q2).trans (a10 c q1 q2 q3), b2.trans a11⟩ ?_
              · rw [← nI_1o] at ee
                exact ee
              · apply g2
                by_cases hbk : b = k
                · exact Or.inr ⟨hbk, hbk ▸ q3⟩
                · refine Or.inl ?_
                  rw [f3F 105 (by decide) (by decide) (by decide)]
                  have key : b < k ∧ k ≤ s 4 b := by
                    have hb0 : y_op s b := Or.inr q3
                    have hnx : y_nx s NL v2 k = s 4 k + 1 ∧ y_op s k ∨ y_nx s NL v2 k = k + 1 := by
                      by_cases z24 : s 0 k = 24
                      · rw [show y_nx s NL v2 k = NL from if_pos z24] at q
                        exact absurd q (Nat.lt_irrefl _)
                      · by_cases zw : y_wn s k = true ∧ y_te s v2 k = false
                        · exact Or.inl ⟨(if_neg z24).trans (if_pos zw), Or.inl (of_decide_eq_true zw.1)⟩
                        · exact Or.inr ((if_neg z24).trans (if_neg zw))
                    rcases hnx with ⟨ez, hop⟩ | ez
                    · rw [ez] at q1 q2
                      have hp := hS.2.2.1 k hk hop
                      have hb4 : b ≠ s 4 k := fun q => by rw [q] at q3; omega
                      by_cases hlt : b < k
                      · omega
                      · have := hS.2.2.2.2 k b (by omega) (by omega) hp.2.1 hop hb0
                        omega
                    · rw [ez] at q1 q2
                      omega
                  exact a8 hk b key.1 key.2 q3
              · by_cases z24 : s 0 k = 24
                · exact Or.inr ⟨if_pos z24, by rw [show y_nx s NL v2 k = NL from if_pos z24]; exact Nat.lt_irrefl _⟩
                · exact Or.inl (if_neg z24)
            cases ho : y_ac s v1 ch k with
            | none =>
              refine And.intro (fun _ => ?_) (fun c => absurd rfl c)
              have e := rest (mi + 1) (by rw [ho]; rfl)
              rw [← nI_1, ← a4, ← (show x_up F 104 3 (F 104 3 + 1) 104 4 = F 104 4 from rfl)] at e
              exact e
            | some z =>
              refine And.intro (fun c => absurd (show (1 : Int32) = 0 from c) (by decide)) (fun _ => ?_)
              have e := rest mi (by rw [ho]; rfl)
              rw [← a4, show F 104 4 = F 104 4 + 0 from (Int32.add_zero _).symm, ← (show x_up F 104 3 (F 104 3 + 1) 104 4 = F 104 4 from rfl)] at e
              exact e
          · have c2 : ¬ F 104 3 < nI 300 := c2
            rw [a3, nI_ltI (by omega) (by decide)] at c2
            have eo : y_one s NL (k, R, v1, ch, st, mi, mo, bo, le) = (NL, R, v1, ch, st, mi, mo, bo, true) := (if_neg he).trans (if_pos (by omega))
            rw [eo] at hon hfi
            have up : ∀ j, j ≠ 8 → x_up F 104 8 1 104 j = F 104 j := fun j hj => by
              unfold x_up
              rw [x_us, x_un hj]
            refine And.intro (Or.inr rfl) ?_
            have ee := ih (i + 1) (x_up F 104 8 1) G (-1) NL R v1 ch st mi mo bo true (by omega) (by omega) (by omega) hon.1 hfi ⟨v_C_fr a1 (fun c q1 q2 => x_un (by omega)) rfl, by rw [up 2 (by decide)]; exact a2, by rw [up 3 (by decide)]; exact a3, by rw [up 4 (by decide)]; exact a4, by rw [up 5 (by decide)]; exact a5, by rw [up 6 (by decide)]; exact a6, by unfold x_up; rw [x_us, x_us]; rfl, fun q => absurd q (Nat.lt_irrefl _), fun c q1 q2 q3 q4 => (x_un q3).trans (a9 c q1 q2 q3 q4), a10, a11⟩ (Or.inr ⟨rfl, Nat.lt_irrefl _⟩)
            rw [← nI_1o] at ee
            exact ee
        · have c : F 33 k = nI 23 := c
          rw [hw, nI_eq (by omega) (by decide)] at c
          have he : s 0 k = 23 := by
            unfold y_wd at c
            split at c <;> omega
          obtain ⟨e1, e2, e3⟩ := y_SV_end hS hk he
          have eo : y_one s NL (k, R, v1, ch, st, mi, mo, bo, le) = (y_ek s R k, y_eR s R k, v1, ch, st, mi, mo, bo, le) := if_pos he
          rw [eo] at hon hfi
          have le := c_lineAfterEnd_32_104 (d := d + 4) (f := F) (g := G) (r := r) (t := t) (dm := dm) (n := n) (R := R) hSF hS1 hk he (fun q => ⟨a8 hk (s 4 k) e1 (by omega) q, i11 hk (s 4 k) e1 (by omega) q⟩)
          refine Exists.intro _ (And.intro le (And.intro (And.intro (Nat.zero_le _) (Nat.zero_le _)) (fun q h' hpo => ?_)))
          obtain ⟨rfl, F4, rfl, g1, g2⟩ := hpo
          have ez : F4 104 = F 104 := g1 104 (by decide)
          have ee := ih (i + 1) F4 G (nI (y_ek s R k)) (y_ek s R k) (y_eR s R k) v1 ch st mi mo bo _ (by omega) (by omega) (by omega) hon.1 hfi ⟨v_C_fr a1 (fun c q1 q2 => g1 c (by omega)) rfl, by rw [ez]; exact a2, by rw [ez]; exact a3, by rw [ez]; exact a4, by rw [ez]; exact a5, by rw [ez]; exact a6, by rw [ez]; exact a7, fun q b q1 q2 q3 => ?_, fun c q1 q2 q3 q4 => (g1 c q4).trans (a9 c q1 q2 q3 q4), a10, a11⟩ (Or.inl rfl)
          · rw [← nI_1o] at ee
            exact ee
          · apply g2
            have hb0 : y_op s b := Or.inr q3
            have key : b < k ∧ k ≤ s 4 b := by
              have hek : (y_ek s R k = s 4 k + 1) ∨ y_ek s R k = k + 1 := by
                unfold y_ek
                split
                · exact Or.inl rfl
                · exact Or.inr rfl
              rcases hek with ez | ez
              · rw [ez] at q1 q2
                by_cases hbb : b = s 4 k
                · rw [hbb, e3]
                  omega
                · have hp := hS.2.2.1 b (by omega) hb0
                  have := hS.2.2.2.2 b (s 4 k) (by omega) (by omega) hp.2.1 hb0 e2
                  omega
              · rw [ez] at q1 q2
                have hbk : b ≠ k := fun q => by rw [q] at q3; omega
                omega
            exact a8 hk b key.1 key.2 q3
      · exact ih i F G x k R v1 ch st mi mo bo le (by
          rw [show y_mu s NL (k, R, v1, ch, st, mi, mo, bo, le) = 0 from if_neg hk]
          exact Nat.zero_le _) (by omega) (by omega) h4 h5 h6 h7
  have h16 : g 12 6 = lN (v 16 0 0) := hC.2.1
  obtain ⟨F, hF⟩ : ∃ F, F = x_up (x_up (x_up (x_up (x_up (x_up f 104 2 (nI seed)) 104 3 0) 104 4 0) 104 5 0) 104 6 0) 104 8 0 := ⟨_, rfl⟩
  have fn : ∀ c, c ≠ 104 → F c = f c := fun c hc => by rw [hF]; exact (x_un hc).trans ((x_un hc).trans ((x_un hc).trans ((x_un hc).trans ((x_un hc).trans (x_un hc)))))
  have ee := loop 50000 0 F g 0 0 (fun _ => 0) v seed 0 0 0 0 false (y_mu_0 hS) (Nat.le_refl _) (by decide) (y_in_0 hBn hs) hE.symm ⟨v_C_fr hC (fun c q1 q2 => fn c (by omega)) rfl, by rw [hF]; rfl, by rw [hF]; rfl, by rw [hF]; rfl, by rw [hF]; rfl, by rw [hF]; rfl, by rw [hF]; rfl, fun _ b hb => absurd hb (Nat.not_lt_zero _), fun c _ _ q3 _ => fn c q3, fun _ _ _ _ => rfl, rfl⟩ (Or.inl rfl)
  refine x_Ct_w (by decide) (Nat.le_of_ble_eq_true rfl) ok45 [42] 6 ?_
  refine And.intro (Or.inl rfl) ?_
  rw [hF, ← h16] at ee
  exact ee
theorem c_unfold_22_32_104 {seed : Nat} (hC : v_C f g 22 v) (hBn : v_Bn N v) (hN : N + 2 ^ 33 < 2 ^ 60) (hSC : x_SC f 32 s NL) (hS : y_SV s NL (v 2 0 0) (v 0 0 0) (v 1 0 0)) (hs : seed < 65536) : x_Ct 45 (d + 5) [.ref 104, .ref 22, .ref 32, .int (nI seed)] (f, g, x_HR r t, dm, n) (x_PU f g 22 104 s NL (x_HR r t) dm n (v 16 0 0) (y_fin s NL (0, (fun _ => 0), v, seed, 0, 0, 0, 0, false))) := by
  have hNL := hS.1
  obtain ⟨E, hE⟩ : ∃ E, E = y_fin s NL (0, (fun _ => 0), v, seed, 0, 0, 0, 0, false) := ⟨_, rfl⟩
  rw [← hE]
  have fin : ∀ F G x i, x_EC f g 22 104 s NL F G E → v 16 0 0 ≤ E.2.2.1 16 0 0 → x_J 45 (d + 5) (x_PU f g 22 104 s NL (x_HR r t) dm n (v 16 0 0) E) 159 [some (.ref 104), some (.ref 22), some (.ref 32), some (.int (nI seed)), some (.long (lN (v 16 0 0))), none, some (.int x), some (.int i)] [] (F, G, x_HR r t, dm, n) 0 0 := by
    intro F G x i hF hq
    obtain ⟨k, R, v1, ch, st, mi, mo, bo, le⟩ := E
    obtain ⟨a1, a2, a3, a4, a5, a6, a7, a8, a9, a10, a11⟩ := hF
    have a16 : G 22 6 = lN (v1 16 0 0) := a1.2.1
    refine x_wp_ok ok45 [] 6 ?_
    refine And.intro ?_ ⟨trivial, Nat.le_refl _, Nat.le_refl _⟩
    refine ⟨_, _, rfl, rfl, ⟨v_C_fr a1 (fun _ _ _ => rfl) (x_un (by decide)), a2, a3, a4, a5, a6, a7, a8, a9, fun c h1 h2 h3 => (x_un h3).trans (a10 c h1 h2 h3), (x_un (by decide)).trans a11⟩, ?_⟩
    unfold x_up
    rw [x_us, x_us]
    show G 22 6 - lN (v 16 0 0) = _
    rw [a16]
    exact lN_sub hq
  have loop : ∀ m i F G x k R v1 ch st mi mo bo le, y_mu s NL (k, R, v1, ch, st, mi, mo, bo, le) ≤ m → m ≤ 50000 → i + m ≤ 60000 → y_in s NL N (v 16 0 0) v (k, R, v1, ch, st, mi, mo, bo, le) → y_fin s NL (k, R, v1, ch, st, mi, mo, bo, le) = E → x_EC f g 22 104 s NL F G (k, R, v1, ch, st, mi, mo, bo, le) → (x = nI k ∨ (x = -1 ∧ ¬ k < NL)) → x_J 45 (d + 5) (x_PU f g 22 104 s NL (x_HR r t) dm n (v 16 0 0) E) 42 [some (.ref 104), some (.ref 22), some (.ref 32), some (.int (nI seed)), some (.long (lN (v 16 0 0))), none, some (.int x), some (.int (nI i))] [] (F, G, x_HR r t, dm, n) 0 0 := by
    intro m
    induction m with
    | zero =>
      intro i F G x k R v1 ch st mi mo bo le h1 h2 h3 h4 h5 h6 h7
      have hk : ¬ k < NL := by
        intro q
        have : y_mu s NL (k, R, v1, ch, st, mi, mo, bo, le) = 1 + 161 * (300 - st) + y_ps s R k := if_pos q
        omega
      have hE2 : (k, R, v1, ch, st, mi, mo, bo, le) = E := (y_fin_0 hk).symm.trans h5
      have hkN : k = NL := Nat.le_antisymm h4.1 (by omega)
      have hq0 : v 16 0 0 ≤ v1 16 0 0 := h4.2.2.2.2.2.2.2.2.1
      have e := fin F G x (nI i) (hE2 ▸ h6) (hE2 ▸ hq0)
      have hl : F 32 2 = nI NL := by rw [h6.2.2.2.2.2.2.2.2.1 32 (by decide) (by decide) (by decide) (by decide)]; exact hSC.1
      refine x_wp_ok ok45 [159] 6 ?_
      refine And.intro (fun c => absurd (show nI 1000000 ≤ nI i from c) (nI_ge (by omega) (by decide))) (fun _ => ?_)
      refine And.intro (fun c => ?_) (fun c => ?_)
      · exact e
      · refine And.intro (fun c2 => ?_) (fun c2 => ?_)
        · exact e
        · have c2 : ¬ F 32 2 ≤ x := c2
          rcases h7 with q | ⟨q, _⟩
          · rw [hl, q, hkN] at c2
            exact absurd (nI_le (Nat.le_refl _) (by omega)) c2
          · have c : ¬ x < 0 := c
            rw [q] at c
            exact absurd (by decide) c
    | succ m ih =>
      intro i F G x k R v1 ch st mi mo bo le h1 h2 h3 h4 h5 h6 h7
      by_cases hk : k < NL
      · obtain ⟨i1, i2, i3, i4, i5, i6, i7, i8, i9, i10, i11⟩ := id h4
        obtain ⟨a1, a2, a3, a4, a5, a6, a7, a8, a9, a10, a11⟩ := id h6
        have hon := y_in_one hS hN hk h4
        have hfi := (y_fin_one hS hN h4 (by omega) hk).trans h5
        have hx : x = nI k := h7.resolve_right (fun q => q.2 hk)
        subst hx
        have hB1 := v_Bn_B i7 (by omega)
        have hS1 : y_SV s NL (v1 2 0 0) (v1 0 0 0) (v1 1 0 0) := by
          rw [i8 0 (by decide), i8 1 (by decide), i8 2 (by decide)]
          exact hS
        have hSF : x_SC F 32 s NL := x_SC_fr hSC (fun c q1 q2 => a9 c (by omega) (by omega) (by omega) (by omega))
        have hl : F 32 2 = nI NL := hSF.1
        have hw : F 33 k = nI (y_wd (s 0 k)) := (hSF.2 k hk).1
        have h24 := y_li_24 (hS.2.1 k hk)
        have hw24 := y_wd_24 h24.2
        have hli1 := hS1.2.1 k hk
        refine x_wp_ok ok45 [42, 143] 9 ?_
        refine And.intro (fun c => absurd (show nI 1000000 ≤ nI i from c) (nI_ge (by omega) (by decide))) (fun _ => ?_)
        refine And.intro (fun c => absurd (show nI k < 0 from c) (nI_pos (by omega))) (fun _ => ?_)
        refine And.intro (fun c => absurd (show F 32 2 ≤ nI k from c) (by rw [hl]; exact nI_ge hk (by omega))) (fun _ => ?_)
        refine And.intro (x_ix_nI (by omega) (by omega)) ?_
        rw [nI_clamp (by omega)]
        refine And.intro (fun c => ?_) (fun c => ?_)
        · have c : ¬ F 33 k = nI 23 := c
          rw [hw, nI_eq (by omega) (by decide)] at c
          have he : s 0 k ≠ 23 := by
            intro q
            apply c
            rw [q]
            rfl
          refine And.intro (fun c2 => ?_) (fun c2 => ?_)
          · have c2 : F 104 3 < nI 300 := c2
            rw [a3, nI_ltI (by omega) (by decide)] at c2
            have eo : y_one s NL (k, R, v1, ch, st, mi, mo, bo, le) = (y_nx s NL (x_oV v1 (y_ac s v1 ch k)) k, y_sR s R k, x_oV v1 (y_ac s v1 ch k), y_cc s v1 ch k, st + 1, mi + y_is (y_ac s v1 ch k) 0 1, mo + y_mo s v1 ch k, bo + y_bo s v1 ch k, le) := (if_neg he).trans (if_neg (by omega))
            rw [eo] at hon hfi
            obtain ⟨v2, hv2⟩ : ∃ v2, v2 = x_oV v1 (y_ac s v1 ch k) := ⟨_, rfl⟩
            have e3 : F 104 3 + 1 = nI (st + 1) := by rw [a3, nI_1]
            obtain ⟨F1, hF1⟩ : ∃ F1, F1 = x_up F 104 3 (F 104 3 + 1) := ⟨_, rfl⟩
            have f1n : ∀ c, c ≠ 104 → F1 c = F c := fun c hc => by rw [hF1]; exact x_un hc
            have f1j : ∀ j, j ≠ 3 → F1 104 j = F 104 j := fun j hj => by
              rw [hF1]
              unfold x_up
              rw [x_us, x_un hj]
            have f13 : F1 104 3 = nI (st + 1) := by
              rw [hF1, ← e3]
              unfold x_up
              rw [x_us, x_us]
            have dn := c_isDone_22_32_104 (d := d) (f := F1) (g := G) (r := r) (t := t) (dm := dm) (n := n) (ch := ch) (mo := mo) (bo := bo) (v_C_fr a1 (fun c q1 q2 => f1n c (by omega)) rfl) i7 (by omega) (x_SC_fr hSF (fun c q1 q2 => f1n c (by omega))) hNL hk hli1 he i3 ((f1j 2 (by decide)).trans a2) ((f1j 5 (by decide)).trans a5) ((f1j 6 (by decide)).trans a6)
            rw [hF1] at dn
            refine Exists.intro _ (And.intro dn (And.intro (And.intro (Nat.zero_le _) (Nat.zero_le _)) (fun q h' hpo => ?_)))
            obtain ⟨F2, G2, rfl, rfl, hF2⟩ := hpo
            rw [← hF1, ← hv2] at hF2
            obtain ⟨b1, b2, b3, b4, b5, b6, b7, b8⟩ := hF2
            have b84 : F2 104 4 = nI mi := (b8 4 (by decide) (by decide) (by decide)).trans ((f1j 4 (by decide)).trans a4)
            have rest : ∀ y, y = mi + y_is (y_ac s v1 ch k) 0 1 → x_J 45 (d + 5) (x_PU f g 22 104 s NL (x_HR r t) dm n (v 16 0 0) E) 143 [some (.ref 104), some (.ref 22), some (.ref 32), some (.int (nI seed)), some (.long (lN (v 16 0 0))), none, some (.int (nI k)), some (.int (nI i))] [] (x_up F2 104 4 (nI y), G2, x_HR r t, dm, n) 0 0 := by
              intro y hy
              obtain ⟨F3, hF3⟩ : ∃ F3, F3 = x_up F2 104 4 (nI y) := ⟨_, rfl⟩
              have f3n : ∀ c, c ≠ 104 → F3 c = F2 c := fun c hc => by rw [hF3]; exact x_un hc
              have f3j : ∀ j, j ≠ 4 → F3 104 j = F2 104 j := fun j hj => by
                rw [hF3]
                unfold x_up
                rw [x_us, x_un hj]
              have f34 : F3 104 4 = nI y := by
                rw [hF3]
                unfold x_up
                rw [x_us, x_us]
              have hon := hon
              have hfi := hfi
              rw [← hv2] at hon hfi
              have f3F : ∀ c, c < 22 ∨ 22 + 9 < c → c ≠ 100 → c ≠ 104 → F3 c = F c := fun c q1 q2 q3 => (f3n c q3).trans ((b3 c q1 q2 q3).trans (f1n c q3))
              have hkp := hon.1.2.2.2.2.2.2.1
              have hB2 := v_Bn_B hkp (y_N3 c2 hN)
              have hS2 : y_SV s NL (v2 2 0 0) (v2 0 0 0) (v2 1 0 0) := by
                have i8 := hon.1.2.2.2.2.2.2.2.1
                rw [i8 0 (by decide), i8 1 (by decide), i8 2 (by decide)]
                exact hS
              have vc3 : v_C F3 G2 22 v2 := v_C_fr b1 (fun c q1 q2 => f3n c (by omega)) rfl
              have ls := c_lineAfterStep_22_32_104 (d := d) (f := F3) (g := G2) (r := r) (t := t) (dm := dm) (n := n) (R := R) vc3 hB2 (x_SC_fr hSF (fun c q1 q2 => f3F c (by omega) (by omega) (by omega))) hS2 hk he
              rw [← hF3]
              refine x_wp_ok ok45 [42] 6 ?_
              refine Exists.intro _ (And.intro ls (And.intro (And.intro (Nat.zero_le _) (Nat.zero_le _)) (fun q h' hpo => ?_)))
              obtain ⟨rfl, F4, rfl, g1, g2⟩ := hpo
              have e2 : F4 104 = F3 104 := g1 104 (by decide)
              have ee := ih (i + 1) F4 G2 (if s 0 k = 24 then -1 else nI (y_nx s NL v2 k)) (y_nx s NL v2 k) (y_sR s R k) v2 (y_cc s v1 ch k) (st + 1) (mi + y_is (y_ac s v1 ch k) 0 1) (mo + y_mo s v1 ch k) (bo + y_bo s v1 ch k) le (by omega) (by omega) (by omega) hon.1 hfi ⟨v_C_fr vc3 (fun c q1 q2 => g1 c (by omega)) rfl, by rw [e2, f3j 2 (by decide)]; exact b5, by rw [e2, f3j 3 (by decide), b8 3 (by decide) (by decide) (by decide)]; exact f13, by rw [e2, f34, hy], by rw [e2, f3j 5 (by decide)]; exact b6, by rw [e2, f3j 6 (by decide)]; exact b7, by rw [e2, f3j 8 (by decide), b8 8 (by decide) (by decide) (by decide), f1j 8 (by decide)]; exact a7, fun q b q1 q2 q3 => ?_, fun c q1 q2 q3 q4 => (g1 c q4).trans ((f3F c q1 q2 q3).trans (a9 c q1 q2 q3 q4)), fun c q1 q2 q3 => (b4 c q1 q2).trans (a10 c q1 q2 q3), b2.trans a11⟩ ?_
              · rw [← nI_1o] at ee
                exact ee
              · apply g2
                by_cases hbk : b = k
                · exact Or.inr ⟨hbk, hbk ▸ q3⟩
                · refine Or.inl ?_
                  rw [f3F 105 (by decide) (by decide) (by decide)]
                  have key : b < k ∧ k ≤ s 4 b := by
                    have hb0 : y_op s b := Or.inr q3
                    have hnx : y_nx s NL v2 k = s 4 k + 1 ∧ y_op s k ∨ y_nx s NL v2 k = k + 1 := by
                      by_cases z24 : s 0 k = 24
                      · rw [show y_nx s NL v2 k = NL from if_pos z24] at q
                        exact absurd q (Nat.lt_irrefl _)
                      · by_cases zw : y_wn s k = true ∧ y_te s v2 k = false
                        · exact Or.inl ⟨(if_neg z24).trans (if_pos zw), Or.inl (of_decide_eq_true zw.1)⟩
                        · exact Or.inr ((if_neg z24).trans (if_neg zw))
                    rcases hnx with ⟨ez, hop⟩ | ez
                    · rw [ez] at q1 q2
                      have hp := hS.2.2.1 k hk hop
                      have hb4 : b ≠ s 4 k := fun q => by rw [q] at q3; omega
                      by_cases hlt : b < k
                      · omega
                      · have := hS.2.2.2.2 k b (by omega) (by omega) hp.2.1 hop hb0
                        omega
                    · rw [ez] at q1 q2
                      omega
                  exact a8 hk b key.1 key.2 q3
              · by_cases z24 : s 0 k = 24
                · exact Or.inr ⟨if_pos z24, by rw [show y_nx s NL v2 k = NL from if_pos z24]; exact Nat.lt_irrefl _⟩
                · exact Or.inl (if_neg z24)
            cases ho : y_ac s v1 ch k with
            | none =>
              refine And.intro (fun _ => ?_) (fun c => absurd rfl c)
              have e := rest (mi + 1) (by rw [ho]; rfl)
              rw [← nI_1, ← a4, ← (show x_up F 104 3 (F 104 3 + 1) 104 4 = F 104 4 from rfl)] at e
              exact e
            | some z =>
              refine And.intro (fun c => absurd (show (1 : Int32) = 0 from c) (by decide)) (fun _ => ?_)
              have e := rest mi (by rw [ho]; rfl)
              rw [← a4, show F 104 4 = F 104 4 + 0 from (Int32.add_zero _).symm, ← (show x_up F 104 3 (F 104 3 + 1) 104 4 = F 104 4 from rfl)] at e
              exact e
          · have c2 : ¬ F 104 3 < nI 300 := c2
            rw [a3, nI_ltI (by omega) (by decide)] at c2
            have eo : y_one s NL (k, R, v1, ch, st, mi, mo, bo, le) = (NL, R, v1, ch, st, mi, mo, bo, true) := (if_neg he).trans (if_pos (by omega))
            rw [eo] at hon hfi
            have up : ∀ j, j ≠ 8 → x_up F 104 8 1 104 j = F 104 j := fun j hj => by
              unfold x_up
              rw [x_us, x_un hj]
            refine And.intro (Or.inr rfl) ?_
            have ee := ih (i + 1) (x_up F 104 8 1) G (-1) NL R v1 ch st mi mo bo true (by omega) (by omega) (by omega) hon.1 hfi ⟨v_C_fr a1 (fun c q1 q2 => x_un (by omega)) rfl, by rw [up 2 (by decide)]; exact a2, by rw [up 3 (by decide)]; exact a3, by rw [up 4 (by decide)]; exact a4, by rw [up 5 (by decide)]; exact a5, by rw [up 6 (by decide)]; exact a6, by unfold x_up; rw [x_us, x_us]; rfl, fun q => absurd q (Nat.lt_irrefl _), fun c q1 q2 q3 q4 => (x_un q3).trans (a9 c q1 q2 q3 q4), a10, a11⟩ (Or.inr ⟨rfl, Nat.lt_irrefl _⟩)
            rw [← nI_1o] at ee
            exact ee
        · have c : F 33 k = nI 23 := c
          rw [hw, nI_eq (by omega) (by decide)] at c
          have he : s 0 k = 23 := by
            unfold y_wd at c
            split at c <;> omega
          obtain ⟨e1, e2, e3⟩ := y_SV_end hS hk he
          have eo : y_one s NL (k, R, v1, ch, st, mi, mo, bo, le) = (y_ek s R k, y_eR s R k, v1, ch, st, mi, mo, bo, le) := if_pos he
          rw [eo] at hon hfi
          have le := c_lineAfterEnd_32_104 (d := d + 4) (f := F) (g := G) (r := r) (t := t) (dm := dm) (n := n) (R := R) hSF hS1 hk he (fun q => ⟨a8 hk (s 4 k) e1 (by omega) q, i11 hk (s 4 k) e1 (by omega) q⟩)
          refine Exists.intro _ (And.intro le (And.intro (And.intro (Nat.zero_le _) (Nat.zero_le _)) (fun q h' hpo => ?_)))
          obtain ⟨rfl, F4, rfl, g1, g2⟩ := hpo
          have ez : F4 104 = F 104 := g1 104 (by decide)
          have ee := ih (i + 1) F4 G (nI (y_ek s R k)) (y_ek s R k) (y_eR s R k) v1 ch st mi mo bo _ (by omega) (by omega) (by omega) hon.1 hfi ⟨v_C_fr a1 (fun c q1 q2 => g1 c (by omega)) rfl, by rw [ez]; exact a2, by rw [ez]; exact a3, by rw [ez]; exact a4, by rw [ez]; exact a5, by rw [ez]; exact a6, by rw [ez]; exact a7, fun q b q1 q2 q3 => ?_, fun c q1 q2 q3 q4 => (g1 c q4).trans (a9 c q1 q2 q3 q4), a10, a11⟩ (Or.inl rfl)
          · rw [← nI_1o] at ee
            exact ee
          · apply g2
            have hb0 : y_op s b := Or.inr q3
            have key : b < k ∧ k ≤ s 4 b := by
              have hek : (y_ek s R k = s 4 k + 1) ∨ y_ek s R k = k + 1 := by
                unfold y_ek
                split
                · exact Or.inl rfl
                · exact Or.inr rfl
              rcases hek with ez | ez
              · rw [ez] at q1 q2
                by_cases hbb : b = s 4 k
                · rw [hbb, e3]
                  omega
                · have hp := hS.2.2.1 b (by omega) hb0
                  have := hS.2.2.2.2 b (s 4 k) (by omega) (by omega) hp.2.1 hb0 e2
                  omega
              · rw [ez] at q1 q2
                have hbk : b ≠ k := fun q => by rw [q] at q3; omega
                omega
            exact a8 hk b key.1 key.2 q3
      · exact ih i F G x k R v1 ch st mi mo bo le (by
          rw [show y_mu s NL (k, R, v1, ch, st, mi, mo, bo, le) = 0 from if_neg hk]
          exact Nat.zero_le _) (by omega) (by omega) h4 h5 h6 h7
  have h16 : g 22 6 = lN (v 16 0 0) := hC.2.1
  obtain ⟨F, hF⟩ : ∃ F, F = x_up (x_up (x_up (x_up (x_up (x_up f 104 2 (nI seed)) 104 3 0) 104 4 0) 104 5 0) 104 6 0) 104 8 0 := ⟨_, rfl⟩
  have fn : ∀ c, c ≠ 104 → F c = f c := fun c hc => by rw [hF]; exact (x_un hc).trans ((x_un hc).trans ((x_un hc).trans ((x_un hc).trans ((x_un hc).trans (x_un hc)))))
  have ee := loop 50000 0 F g 0 0 (fun _ => 0) v seed 0 0 0 0 false (y_mu_0 hS) (Nat.le_refl _) (by decide) (y_in_0 hBn hs) hE.symm ⟨v_C_fr hC (fun c q1 q2 => fn c (by omega)) rfl, by rw [hF]; rfl, by rw [hF]; rfl, by rw [hF]; rfl, by rw [hF]; rfl, by rw [hF]; rfl, by rw [hF]; rfl, fun _ b hb => absurd hb (Nat.not_lt_zero _), fun c _ _ q3 _ => fn c q3, fun _ _ _ _ => rfl, rfl⟩ (Or.inl rfl)
  refine x_Ct_w (by decide) (Nat.le_of_ble_eq_true rfl) ok45 [42] 6 ?_
  refine And.intro (Or.inl rfl) ?_
  rw [hF, ← h16] at ee
  exact ee
theorem c_unfold_12_39_102 {seed : Nat} (hC : v_C f g 12 v) (hBn : v_Bn N v) (hN : N + 2 ^ 33 < 2 ^ 60) (hSC : x_SC f 39 s NL) (hS : y_SV s NL (v 2 0 0) (v 0 0 0) (v 1 0 0)) (hs : seed < 65536) : x_Ct 45 (d + 5) [.ref 102, .ref 12, .ref 39, .int (nI seed)] (f, g, x_HR r t, dm, n) (x_PU f g 12 102 s NL (x_HR r t) dm n (v 16 0 0) (y_fin s NL (0, (fun _ => 0), v, seed, 0, 0, 0, 0, false))) := by
  have hNL := hS.1
  obtain ⟨E, hE⟩ : ∃ E, E = y_fin s NL (0, (fun _ => 0), v, seed, 0, 0, 0, 0, false) := ⟨_, rfl⟩
  rw [← hE]
  have fin : ∀ F G x i, x_EC f g 12 102 s NL F G E → v 16 0 0 ≤ E.2.2.1 16 0 0 → x_J 45 (d + 5) (x_PU f g 12 102 s NL (x_HR r t) dm n (v 16 0 0) E) 159 [some (.ref 102), some (.ref 12), some (.ref 39), some (.int (nI seed)), some (.long (lN (v 16 0 0))), none, some (.int x), some (.int i)] [] (F, G, x_HR r t, dm, n) 0 0 := by
    intro F G x i hF hq
    obtain ⟨k, R, v1, ch, st, mi, mo, bo, le⟩ := E
    obtain ⟨a1, a2, a3, a4, a5, a6, a7, a8, a9, a10, a11⟩ := hF
    have a16 : G 12 6 = lN (v1 16 0 0) := a1.2.1
    refine x_wp_ok ok45 [] 6 ?_
    refine And.intro ?_ ⟨trivial, Nat.le_refl _, Nat.le_refl _⟩
    refine ⟨_, _, rfl, rfl, ⟨v_C_fr a1 (fun _ _ _ => rfl) (x_un (by decide)), a2, a3, a4, a5, a6, a7, a8, a9, fun c h1 h2 h3 => (x_un h3).trans (a10 c h1 h2 h3), (x_un (by decide)).trans a11⟩, ?_⟩
    unfold x_up
    rw [x_us, x_us]
    show G 12 6 - lN (v 16 0 0) = _
    rw [a16]
    exact lN_sub hq
  have loop : ∀ m i F G x k R v1 ch st mi mo bo le, y_mu s NL (k, R, v1, ch, st, mi, mo, bo, le) ≤ m → m ≤ 50000 → i + m ≤ 60000 → y_in s NL N (v 16 0 0) v (k, R, v1, ch, st, mi, mo, bo, le) → y_fin s NL (k, R, v1, ch, st, mi, mo, bo, le) = E → x_EC f g 12 102 s NL F G (k, R, v1, ch, st, mi, mo, bo, le) → (x = nI k ∨ (x = -1 ∧ ¬ k < NL)) → x_J 45 (d + 5) (x_PU f g 12 102 s NL (x_HR r t) dm n (v 16 0 0) E) 42 [some (.ref 102), some (.ref 12), some (.ref 39), some (.int (nI seed)), some (.long (lN (v 16 0 0))), none, some (.int x), some (.int (nI i))] [] (F, G, x_HR r t, dm, n) 0 0 := by
    intro m
    induction m with
    | zero =>
      intro i F G x k R v1 ch st mi mo bo le h1 h2 h3 h4 h5 h6 h7
      have hk : ¬ k < NL := by
        intro q
        have : y_mu s NL (k, R, v1, ch, st, mi, mo, bo, le) = 1 + 161 * (300 - st) + y_ps s R k := if_pos q
        omega
      have hE2 : (k, R, v1, ch, st, mi, mo, bo, le) = E := (y_fin_0 hk).symm.trans h5
      have hkN : k = NL := Nat.le_antisymm h4.1 (by omega)
      have hq0 : v 16 0 0 ≤ v1 16 0 0 := h4.2.2.2.2.2.2.2.2.1
      have e := fin F G x (nI i) (hE2 ▸ h6) (hE2 ▸ hq0)
      have hl : F 39 2 = nI NL := by rw [h6.2.2.2.2.2.2.2.2.1 39 (by decide) (by decide) (by decide) (by decide)]; exact hSC.1
      refine x_wp_ok ok45 [159] 6 ?_
      refine And.intro (fun c => absurd (show nI 1000000 ≤ nI i from c) (nI_ge (by omega) (by decide))) (fun _ => ?_)
      refine And.intro (fun c => ?_) (fun c => ?_)
      · exact e
      · refine And.intro (fun c2 => ?_) (fun c2 => ?_)
        · exact e
        · have c2 : ¬ F 39 2 ≤ x := c2
          rcases h7 with q | ⟨q, _⟩
          · rw [hl, q, hkN] at c2
            exact absurd (nI_le (Nat.le_refl _) (by omega)) c2
          · have c : ¬ x < 0 := c
            rw [q] at c
            exact absurd (by decide) c
    | succ m ih =>
      intro i F G x k R v1 ch st mi mo bo le h1 h2 h3 h4 h5 h6 h7
      by_cases hk : k < NL
      · obtain ⟨i1, i2, i3, i4, i5, i6, i7, i8, i9, i10, i11⟩ := id h4
        obtain ⟨a1, a2, a3, a4, a5, a6, a7, a8, a9, a10, a11⟩ := id h6
        have hon := y_in_one hS hN hk h4
        have hfi := (y_fin_one hS hN h4 (by omega) hk).trans h5
        have hx : x = nI k := h7.resolve_right (fun q => q.2 hk)
        subst hx
        have hB1 := v_Bn_B i7 (by omega)
        have hS1 : y_SV s NL (v1 2 0 0) (v1 0 0 0) (v1 1 0 0) := by
          rw [i8 0 (by decide), i8 1 (by decide), i8 2 (by decide)]
          exact hS
        have hSF : x_SC F 39 s NL := x_SC_fr hSC (fun c q1 q2 => a9 c (by omega) (by omega) (by omega) (by omega))
        have hl : F 39 2 = nI NL := hSF.1
        have hw : F 40 k = nI (y_wd (s 0 k)) := (hSF.2 k hk).1
        have h24 := y_li_24 (hS.2.1 k hk)
        have hw24 := y_wd_24 h24.2
        have hli1 := hS1.2.1 k hk
        refine x_wp_ok ok45 [42, 143] 9 ?_
        refine And.intro (fun c => absurd (show nI 1000000 ≤ nI i from c) (nI_ge (by omega) (by decide))) (fun _ => ?_)
        refine And.intro (fun c => absurd (show nI k < 0 from c) (nI_pos (by omega))) (fun _ => ?_)
        refine And.intro (fun c => absurd (show F 39 2 ≤ nI k from c) (by rw [hl]; exact nI_ge hk (by omega))) (fun _ => ?_)
        refine And.intro (x_ix_nI (by omega) (by omega)) ?_
        rw [nI_clamp (by omega)]
        refine And.intro (fun c => ?_) (fun c => ?_)
        · have c : ¬ F 40 k = nI 23 := c
          rw [hw, nI_eq (by omega) (by decide)] at c
          have he : s 0 k ≠ 23 := by
            intro q
            apply c
            rw [q]
            rfl
          refine And.intro (fun c2 => ?_) (fun c2 => ?_)
          · have c2 : F 102 3 < nI 300 := c2
            rw [a3, nI_ltI (by omega) (by decide)] at c2
            have eo : y_one s NL (k, R, v1, ch, st, mi, mo, bo, le) = (y_nx s NL (x_oV v1 (y_ac s v1 ch k)) k, y_sR s R k, x_oV v1 (y_ac s v1 ch k), y_cc s v1 ch k, st + 1, mi + y_is (y_ac s v1 ch k) 0 1, mo + y_mo s v1 ch k, bo + y_bo s v1 ch k, le) := (if_neg he).trans (if_neg (by omega))
            rw [eo] at hon hfi
            obtain ⟨v2, hv2⟩ : ∃ v2, v2 = x_oV v1 (y_ac s v1 ch k) := ⟨_, rfl⟩
            have e3 : F 102 3 + 1 = nI (st + 1) := by rw [a3, nI_1]
            obtain ⟨F1, hF1⟩ : ∃ F1, F1 = x_up F 102 3 (F 102 3 + 1) := ⟨_, rfl⟩
            have f1n : ∀ c, c ≠ 102 → F1 c = F c := fun c hc => by rw [hF1]; exact x_un hc
            have f1j : ∀ j, j ≠ 3 → F1 102 j = F 102 j := fun j hj => by
              rw [hF1]
              unfold x_up
              rw [x_us, x_un hj]
            have f13 : F1 102 3 = nI (st + 1) := by
              rw [hF1, ← e3]
              unfold x_up
              rw [x_us, x_us]
            have dn := c_isDone_12_39_102 (d := d) (f := F1) (g := G) (r := r) (t := t) (dm := dm) (n := n) (ch := ch) (mo := mo) (bo := bo) (v_C_fr a1 (fun c q1 q2 => f1n c (by omega)) rfl) i7 (by omega) (x_SC_fr hSF (fun c q1 q2 => f1n c (by omega))) hNL hk hli1 he i3 ((f1j 2 (by decide)).trans a2) ((f1j 5 (by decide)).trans a5) ((f1j 6 (by decide)).trans a6)
            rw [hF1] at dn
            refine Exists.intro _ (And.intro dn (And.intro (And.intro (Nat.zero_le _) (Nat.zero_le _)) (fun q h' hpo => ?_)))
            obtain ⟨F2, G2, rfl, rfl, hF2⟩ := hpo
            rw [← hF1, ← hv2] at hF2
            obtain ⟨b1, b2, b3, b4, b5, b6, b7, b8⟩ := hF2
            have b84 : F2 102 4 = nI mi := (b8 4 (by decide) (by decide) (by decide)).trans ((f1j 4 (by decide)).trans a4)
            have rest : ∀ y, y = mi + y_is (y_ac s v1 ch k) 0 1 → x_J 45 (d + 5) (x_PU f g 12 102 s NL (x_HR r t) dm n (v 16 0 0) E) 143 [some (.ref 102), some (.ref 12), some (.ref 39), some (.int (nI seed)), some (.long (lN (v 16 0 0))), none, some (.int (nI k)), some (.int (nI i))] [] (x_up F2 102 4 (nI y), G2, x_HR r t, dm, n) 0 0 := by
              intro y hy
              obtain ⟨F3, hF3⟩ : ∃ F3, F3 = x_up F2 102 4 (nI y) := ⟨_, rfl⟩
              have f3n : ∀ c, c ≠ 102 → F3 c = F2 c := fun c hc => by rw [hF3]; exact x_un hc
              have f3j : ∀ j, j ≠ 4 → F3 102 j = F2 102 j := fun j hj => by
                rw [hF3]
                unfold x_up
                rw [x_us, x_un hj]
              have f34 : F3 102 4 = nI y := by
                rw [hF3]
                unfold x_up
                rw [x_us, x_us]
              have hon := hon
              have hfi := hfi
              rw [← hv2] at hon hfi
              have f3F : ∀ c, c < 12 ∨ 12 + 9 < c → c ≠ 100 → c ≠ 102 → F3 c = F c := fun c q1 q2 q3 => (f3n c q3).trans ((b3 c q1 q2 q3).trans (f1n c q3))
              have hkp := hon.1.2.2.2.2.2.2.1
              have hB2 := v_Bn_B hkp (y_N3 c2 hN)
              have hS2 : y_SV s NL (v2 2 0 0) (v2 0 0 0) (v2 1 0 0) := by
                have i8 := hon.1.2.2.2.2.2.2.2.1
                rw [i8 0 (by decide), i8 1 (by decide), i8 2 (by decide)]
                exact hS
              have vc3 : v_C F3 G2 12 v2 := v_C_fr b1 (fun c q1 q2 => f3n c (by omega)) rfl
              have ls := c_lineAfterStep_12_39_102 (d := d) (f := F3) (g := G2) (r := r) (t := t) (dm := dm) (n := n) (R := R) vc3 hB2 (x_SC_fr hSF (fun c q1 q2 => f3F c (by omega) (by omega) (by omega))) hS2 hk he
              rw [← hF3]
              refine x_wp_ok ok45 [42] 6 ?_
              refine Exists.intro _ (And.intro ls (And.intro (And.intro (Nat.zero_le _) (Nat.zero_le _)) (fun q h' hpo => ?_)))
              obtain ⟨rfl, F4, rfl, g1, g2⟩ := hpo
              have e2 : F4 102 = F3 102 := g1 102 (by decide)
              have ee := ih (i + 1) F4 G2 (if s 0 k = 24 then -1 else nI (y_nx s NL v2 k)) (y_nx s NL v2 k) (y_sR s R k) v2 (y_cc s v1 ch k) (st + 1) (mi + y_is (y_ac s v1 ch k) 0 1) (mo + y_mo s v1 ch k) (bo + y_bo s v1 ch k) le (by omega) (by omega) (by omega) hon.1 hfi ⟨v_C_fr vc3 (fun c q1 q2 => g1 c (by omega)) rfl, by rw [e2, f3j 2 (by decide)]; exact b5, by rw [e2, f3j 3 (by decide), b8 3 (by decide) (by decide) (by decide)]; exact f13, by rw [e2, f34, hy], by rw [e2, f3j 5 (by decide)]; exact b6, by rw [e2, f3j 6 (by decide)]; exact b7, by rw [e2, f3j 8 (by decide), b8 8 (by decide) (by decide) (by decide), f1j 8 (by decide)]; exact a7, fun q b q1 q2 q3 => ?_, fun c q1 q2 q3 q4 => (g1 c q4).trans ((f3F c q1 q2 q3).trans (a9 c q1 q2 q3 q4)), fun c q1 q2 q3 => (b4 c q1 q2).trans (a10 c q1 q2 q3), b2.trans a11⟩ ?_
              · rw [← nI_1o] at ee
                exact ee
              · apply g2
                by_cases hbk : b = k
                · exact Or.inr ⟨hbk, hbk ▸ q3⟩
                · refine Or.inl ?_
                  rw [f3F 103 (by decide) (by decide) (by decide)]
                  have key : b < k ∧ k ≤ s 4 b := by
                    have hb0 : y_op s b := Or.inr q3
                    have hnx : y_nx s NL v2 k = s 4 k + 1 ∧ y_op s k ∨ y_nx s NL v2 k = k + 1 := by
                      by_cases z24 : s 0 k = 24
                      · rw [show y_nx s NL v2 k = NL from if_pos z24] at q
                        exact absurd q (Nat.lt_irrefl _)
                      · by_cases zw : y_wn s k = true ∧ y_te s v2 k = false
                        · exact Or.inl ⟨(if_neg z24).trans (if_pos zw), Or.inl (of_decide_eq_true zw.1)⟩
                        · exact Or.inr ((if_neg z24).trans (if_neg zw))
                    rcases hnx with ⟨ez, hop⟩ | ez
                    · rw [ez] at q1 q2
                      have hp := hS.2.2.1 k hk hop
                      have hb4 : b ≠ s 4 k := fun q => by rw [q] at q3; omega
                      by_cases hlt : b < k
                      · omega
                      · have := hS.2.2.2.2 k b (by omega) (by omega) hp.2.1 hop hb0
                        omega
                    · rw [ez] at q1 q2
                      omega
                  exact a8 hk b key.1 key.2 q3
              · by_cases z24 : s 0 k = 24
                · exact Or.inr ⟨if_pos z24, by rw [show y_nx s NL v2 k = NL from if_pos z24]; exact Nat.lt_irrefl _⟩
                · exact Or.inl (if_neg z24)
            cases ho : y_ac s v1 ch k with
            | none =>
              refine And.intro (fun _ => ?_) (fun c => absurd rfl c)
              have e := rest (mi + 1) (by rw [ho]; rfl)
              rw [← nI_1, ← a4, ← (show x_up F 102 3 (F 102 3 + 1) 102 4 = F 102 4 from rfl)] at e
              exact e
            | some z =>
              refine And.intro (fun c => absurd (show (1 : Int32) = 0 from c) (by decide)) (fun _ => ?_)
              have e := rest mi (by rw [ho]; rfl)
              rw [← a4, show F 102 4 = F 102 4 + 0 from (Int32.add_zero _).symm, ← (show x_up F 102 3 (F 102 3 + 1) 102 4 = F 102 4 from rfl)] at e
              exact e
          · have c2 : ¬ F 102 3 < nI 300 := c2
            rw [a3, nI_ltI (by omega) (by decide)] at c2
            have eo : y_one s NL (k, R, v1, ch, st, mi, mo, bo, le) = (NL, R, v1, ch, st, mi, mo, bo, true) := (if_neg he).trans (if_pos (by omega))
            rw [eo] at hon hfi
            have up : ∀ j, j ≠ 8 → x_up F 102 8 1 102 j = F 102 j := fun j hj => by
              unfold x_up
              rw [x_us, x_un hj]
            refine And.intro (Or.inr rfl) ?_
            have ee := ih (i + 1) (x_up F 102 8 1) G (-1) NL R v1 ch st mi mo bo true (by omega) (by omega) (by omega) hon.1 hfi ⟨v_C_fr a1 (fun c q1 q2 => x_un (by omega)) rfl, by rw [up 2 (by decide)]; exact a2, by rw [up 3 (by decide)]; exact a3, by rw [up 4 (by decide)]; exact a4, by rw [up 5 (by decide)]; exact a5, by rw [up 6 (by decide)]; exact a6, by unfold x_up; rw [x_us, x_us]; rfl, fun q => absurd q (Nat.lt_irrefl _), fun c q1 q2 q3 q4 => (x_un q3).trans (a9 c q1 q2 q3 q4), a10, a11⟩ (Or.inr ⟨rfl, Nat.lt_irrefl _⟩)
            rw [← nI_1o] at ee
            exact ee
        · have c : F 40 k = nI 23 := c
          rw [hw, nI_eq (by omega) (by decide)] at c
          have he : s 0 k = 23 := by
            unfold y_wd at c
            split at c <;> omega
          obtain ⟨e1, e2, e3⟩ := y_SV_end hS hk he
          have eo : y_one s NL (k, R, v1, ch, st, mi, mo, bo, le) = (y_ek s R k, y_eR s R k, v1, ch, st, mi, mo, bo, le) := if_pos he
          rw [eo] at hon hfi
          have le := c_lineAfterEnd_39_102 (d := d + 4) (f := F) (g := G) (r := r) (t := t) (dm := dm) (n := n) (R := R) hSF hS1 hk he (fun q => ⟨a8 hk (s 4 k) e1 (by omega) q, i11 hk (s 4 k) e1 (by omega) q⟩)
          refine Exists.intro _ (And.intro le (And.intro (And.intro (Nat.zero_le _) (Nat.zero_le _)) (fun q h' hpo => ?_)))
          obtain ⟨rfl, F4, rfl, g1, g2⟩ := hpo
          have ez : F4 102 = F 102 := g1 102 (by decide)
          have ee := ih (i + 1) F4 G (nI (y_ek s R k)) (y_ek s R k) (y_eR s R k) v1 ch st mi mo bo _ (by omega) (by omega) (by omega) hon.1 hfi ⟨v_C_fr a1 (fun c q1 q2 => g1 c (by omega)) rfl, by rw [ez]; exact a2, by rw [ez]; exact a3, by rw [ez]; exact a4, by rw [ez]; exact a5, by rw [ez]; exact a6, by rw [ez]; exact a7, fun q b q1 q2 q3 => ?_, fun c q1 q2 q3 q4 => (g1 c q4).trans (a9 c q1 q2 q3 q4), a10, a11⟩ (Or.inl rfl)
          · rw [← nI_1o] at ee
            exact ee
          · apply g2
            have hb0 : y_op s b := Or.inr q3
            have key : b < k ∧ k ≤ s 4 b := by
              have hek : (y_ek s R k = s 4 k + 1) ∨ y_ek s R k = k + 1 := by
                unfold y_ek
                split
                · exact Or.inl rfl
                · exact Or.inr rfl
              rcases hek with ez | ez
              · rw [ez] at q1 q2
                by_cases hbb : b = s 4 k
                · rw [hbb, e3]
                  omega
                · have hp := hS.2.2.1 b (by omega) hb0
                  have := hS.2.2.2.2 b (s 4 k) (by omega) (by omega) hp.2.1 hb0 e2
                  omega
              · rw [ez] at q1 q2
                have hbk : b ≠ k := fun q => by rw [q] at q3; omega
                omega
            exact a8 hk b key.1 key.2 q3
      · exact ih i F G x k R v1 ch st mi mo bo le (by
          rw [show y_mu s NL (k, R, v1, ch, st, mi, mo, bo, le) = 0 from if_neg hk]
          exact Nat.zero_le _) (by omega) (by omega) h4 h5 h6 h7
  have h16 : g 12 6 = lN (v 16 0 0) := hC.2.1
  obtain ⟨F, hF⟩ : ∃ F, F = x_up (x_up (x_up (x_up (x_up (x_up f 102 2 (nI seed)) 102 3 0) 102 4 0) 102 5 0) 102 6 0) 102 8 0 := ⟨_, rfl⟩
  have fn : ∀ c, c ≠ 102 → F c = f c := fun c hc => by rw [hF]; exact (x_un hc).trans ((x_un hc).trans ((x_un hc).trans ((x_un hc).trans ((x_un hc).trans (x_un hc)))))
  have ee := loop 50000 0 F g 0 0 (fun _ => 0) v seed 0 0 0 0 false (y_mu_0 hS) (Nat.le_refl _) (by decide) (y_in_0 hBn hs) hE.symm ⟨v_C_fr hC (fun c q1 q2 => fn c (by omega)) rfl, by rw [hF]; rfl, by rw [hF]; rfl, by rw [hF]; rfl, by rw [hF]; rfl, by rw [hF]; rfl, by rw [hF]; rfl, fun _ b hb => absurd hb (Nat.not_lt_zero _), fun c _ _ q3 _ => fn c q3, fun _ _ _ _ => rfl, rfl⟩ (Or.inl rfl)
  refine x_Ct_w (by decide) (Nat.le_of_ble_eq_true rfl) ok45 [42] 6 ?_
  refine And.intro (Or.inl rfl) ?_
  rw [hF, ← h16] at ee
  exact ee
theorem c_unfold_22_39_102 {seed : Nat} (hC : v_C f g 22 v) (hBn : v_Bn N v) (hN : N + 2 ^ 33 < 2 ^ 60) (hSC : x_SC f 39 s NL) (hS : y_SV s NL (v 2 0 0) (v 0 0 0) (v 1 0 0)) (hs : seed < 65536) : x_Ct 45 (d + 5) [.ref 102, .ref 22, .ref 39, .int (nI seed)] (f, g, x_HR r t, dm, n) (x_PU f g 22 102 s NL (x_HR r t) dm n (v 16 0 0) (y_fin s NL (0, (fun _ => 0), v, seed, 0, 0, 0, 0, false))) := by
  have hNL := hS.1
  obtain ⟨E, hE⟩ : ∃ E, E = y_fin s NL (0, (fun _ => 0), v, seed, 0, 0, 0, 0, false) := ⟨_, rfl⟩
  rw [← hE]
  have fin : ∀ F G x i, x_EC f g 22 102 s NL F G E → v 16 0 0 ≤ E.2.2.1 16 0 0 → x_J 45 (d + 5) (x_PU f g 22 102 s NL (x_HR r t) dm n (v 16 0 0) E) 159 [some (.ref 102), some (.ref 22), some (.ref 39), some (.int (nI seed)), some (.long (lN (v 16 0 0))), none, some (.int x), some (.int i)] [] (F, G, x_HR r t, dm, n) 0 0 := by
    intro F G x i hF hq
    obtain ⟨k, R, v1, ch, st, mi, mo, bo, le⟩ := E
    obtain ⟨a1, a2, a3, a4, a5, a6, a7, a8, a9, a10, a11⟩ := hF
    have a16 : G 22 6 = lN (v1 16 0 0) := a1.2.1
    refine x_wp_ok ok45 [] 6 ?_
    refine And.intro ?_ ⟨trivial, Nat.le_refl _, Nat.le_refl _⟩
    refine ⟨_, _, rfl, rfl, ⟨v_C_fr a1 (fun _ _ _ => rfl) (x_un (by decide)), a2, a3, a4, a5, a6, a7, a8, a9, fun c h1 h2 h3 => (x_un h3).trans (a10 c h1 h2 h3), (x_un (by decide)).trans a11⟩, ?_⟩
    unfold x_up
    rw [x_us, x_us]
    show G 22 6 - lN (v 16 0 0) = _
    rw [a16]
    exact lN_sub hq
  have loop : ∀ m i F G x k R v1 ch st mi mo bo le, y_mu s NL (k, R, v1, ch, st, mi, mo, bo, le) ≤ m → m ≤ 50000 → i + m ≤ 60000 → y_in s NL N (v 16 0 0) v (k, R, v1, ch, st, mi, mo, bo, le) → y_fin s NL (k, R, v1, ch, st, mi, mo, bo, le) = E → x_EC f g 22 102 s NL F G (k, R, v1, ch, st, mi, mo, bo, le) → (x = nI k ∨ (x = -1 ∧ ¬ k < NL)) → x_J 45 (d + 5) (x_PU f g 22 102 s NL (x_HR r t) dm n (v 16 0 0) E) 42 [some (.ref 102), some (.ref 22), some (.ref 39), some (.int (nI seed)), some (.long (lN (v 16 0 0))), none, some (.int x), some (.int (nI i))] [] (F, G, x_HR r t, dm, n) 0 0 := by
    intro m
    induction m with
    | zero =>
      intro i F G x k R v1 ch st mi mo bo le h1 h2 h3 h4 h5 h6 h7
      have hk : ¬ k < NL := by
        intro q
        have : y_mu s NL (k, R, v1, ch, st, mi, mo, bo, le) = 1 + 161 * (300 - st) + y_ps s R k := if_pos q
        omega
      have hE2 : (k, R, v1, ch, st, mi, mo, bo, le) = E := (y_fin_0 hk).symm.trans h5
      have hkN : k = NL := Nat.le_antisymm h4.1 (by omega)
      have hq0 : v 16 0 0 ≤ v1 16 0 0 := h4.2.2.2.2.2.2.2.2.1
      have e := fin F G x (nI i) (hE2 ▸ h6) (hE2 ▸ hq0)
      have hl : F 39 2 = nI NL := by rw [h6.2.2.2.2.2.2.2.2.1 39 (by decide) (by decide) (by decide) (by decide)]; exact hSC.1
      refine x_wp_ok ok45 [159] 6 ?_
      refine And.intro (fun c => absurd (show nI 1000000 ≤ nI i from c) (nI_ge (by omega) (by decide))) (fun _ => ?_)
      refine And.intro (fun c => ?_) (fun c => ?_)
      · exact e
      · refine And.intro (fun c2 => ?_) (fun c2 => ?_)
        · exact e
        · have c2 : ¬ F 39 2 ≤ x := c2
          rcases h7 with q | ⟨q, _⟩
          · rw [hl, q, hkN] at c2
            exact absurd (nI_le (Nat.le_refl _) (by omega)) c2
          · have c : ¬ x < 0 := c
            rw [q] at c
            exact absurd (by decide) c
    | succ m ih =>
      intro i F G x k R v1 ch st mi mo bo le h1 h2 h3 h4 h5 h6 h7
      by_cases hk : k < NL
      · obtain ⟨i1, i2, i3, i4, i5, i6, i7, i8, i9, i10, i11⟩ := id h4
        obtain ⟨a1, a2, a3, a4, a5, a6, a7, a8, a9, a10, a11⟩ := id h6
        have hon := y_in_one hS hN hk h4
        have hfi := (y_fin_one hS hN h4 (by omega) hk).trans h5
        have hx : x = nI k := h7.resolve_right (fun q => q.2 hk)
        subst hx
        have hB1 := v_Bn_B i7 (by omega)
        have hS1 : y_SV s NL (v1 2 0 0) (v1 0 0 0) (v1 1 0 0) := by
          rw [i8 0 (by decide), i8 1 (by decide), i8 2 (by decide)]
          exact hS
        have hSF : x_SC F 39 s NL := x_SC_fr hSC (fun c q1 q2 => a9 c (by omega) (by omega) (by omega) (by omega))
        have hl : F 39 2 = nI NL := hSF.1
        have hw : F 40 k = nI (y_wd (s 0 k)) := (hSF.2 k hk).1
        have h24 := y_li_24 (hS.2.1 k hk)
        have hw24 := y_wd_24 h24.2
        have hli1 := hS1.2.1 k hk
        refine x_wp_ok ok45 [42, 143] 9 ?_
        refine And.intro (fun c => absurd (show nI 1000000 ≤ nI i from c) (nI_ge (by omega) (by decide))) (fun _ => ?_)
        refine And.intro (fun c => absurd (show nI k < 0 from c) (nI_pos (by omega))) (fun _ => ?_)
        refine And.intro (fun c => absurd (show F 39 2 ≤ nI k from c) (by rw [hl]; exact nI_ge hk (by omega))) (fun _ => ?_)
        refine And.intro (x_ix_nI (by omega) (by omega)) ?_
        rw [nI_clamp (by omega)]
        refine And.intro (fun c => ?_) (fun c => ?_)
        · have c : ¬ F 40 k = nI 23 := c
          rw [hw, nI_eq (by omega) (by decide)] at c
          have he : s 0 k ≠ 23 := by
            intro q
            apply c
            rw [q]
            rfl
          refine And.intro (fun c2 => ?_) (fun c2 => ?_)
          · have c2 : F 102 3 < nI 300 := c2
            rw [a3, nI_ltI (by omega) (by decide)] at c2
            have eo : y_one s NL (k, R, v1, ch, st, mi, mo, bo, le) = (y_nx s NL (x_oV v1 (y_ac s v1 ch k)) k, y_sR s R k, x_oV v1 (y_ac s v1 ch k), y_cc s v1 ch k, st + 1, mi + y_is (y_ac s v1 ch k) 0 1, mo + y_mo s v1 ch k, bo + y_bo s v1 ch k, le) := (if_neg he).trans (if_neg (by omega))
            rw [eo] at hon hfi
            obtain ⟨v2, hv2⟩ : ∃ v2, v2 = x_oV v1 (y_ac s v1 ch k) := ⟨_, rfl⟩
            have e3 : F 102 3 + 1 = nI (st + 1) := by rw [a3, nI_1]
            obtain ⟨F1, hF1⟩ : ∃ F1, F1 = x_up F 102 3 (F 102 3 + 1) := ⟨_, rfl⟩
            have f1n : ∀ c, c ≠ 102 → F1 c = F c := fun c hc => by rw [hF1]; exact x_un hc
            have f1j : ∀ j, j ≠ 3 → F1 102 j = F 102 j := fun j hj => by
              rw [hF1]
              unfold x_up
              rw [x_us, x_un hj]
            have f13 : F1 102 3 = nI (st + 1) := by
              rw [hF1, ← e3]
              unfold x_up
              rw [x_us, x_us]
            have dn := c_isDone_22_39_102 (d := d) (f := F1) (g := G) (r := r) (t := t) (dm := dm) (n := n) (ch := ch) (mo := mo) (bo := bo) (v_C_fr a1 (fun c q1 q2 => f1n c (by omega)) rfl) i7 (by omega) (x_SC_fr hSF (fun c q1 q2 => f1n c (by omega))) hNL hk hli1 he i3 ((f1j 2 (by decide)).trans a2) ((f1j 5 (by decide)).trans a5) ((f1j 6 (by decide)).trans a6)
            rw [hF1] at dn
            refine Exists.intro _ (And.intro dn (And.intro (And.intro (Nat.zero_le _) (Nat.zero_le _)) (fun q h' hpo => ?_)))
            obtain ⟨F2, G2, rfl, rfl, hF2⟩ := hpo
            rw [← hF1, ← hv2] at hF2
            obtain ⟨b1, b2, b3, b4, b5, b6, b7, b8⟩ := hF2
            have b84 : F2 102 4 = nI mi := (b8 4 (by decide) (by decide) (by decide)).trans ((f1j 4 (by decide)).trans a4)
            have rest : ∀ y, y = mi + y_is (y_ac s v1 ch k) 0 1 → x_J 45 (d + 5) (x_PU f g 22 102 s NL (x_HR r t) dm n (v 16 0 0) E) 143 [some (.ref 102), some (.ref 22), some (.ref 39), some (.int (nI seed)), some (.long (lN (v 16 0 0))), none, some (.int (nI k)), some (.int (nI i))] [] (x_up F2 102 4 (nI y), G2, x_HR r t, dm, n) 0 0 := by
              intro y hy
              obtain ⟨F3, hF3⟩ : ∃ F3, F3 = x_up F2 102 4 (nI y) := ⟨_, rfl⟩
              have f3n : ∀ c, c ≠ 102 → F3 c = F2 c := fun c hc => by rw [hF3]; exact x_un hc
              have f3j : ∀ j, j ≠ 4 → F3 102 j = F2 102 j := fun j hj => by
                rw [hF3]
                unfold x_up
                rw [x_us, x_un hj]
              have f34 : F3 102 4 = nI y := by
                rw [hF3]
                unfold x_up
                rw [x_us, x_us]
              have hon := hon
              have hfi := hfi
              rw [← hv2] at hon hfi
              have f3F : ∀ c, c < 22 ∨ 22 + 9 < c → c ≠ 100 → c ≠ 102 → F3 c = F c := fun c q1 q2 q3 => (f3n c q3).trans ((b3 c q1 q2 q3).trans (f1n c q3))
              have hkp := hon.1.2.2.2.2.2.2.1
              have hB2 := v_Bn_B hkp (y_N3 c2 hN)
              have hS2 : y_SV s NL (v2 2 0 0) (v2 0 0 0) (v2 1 0 0) := by
                have i8 := hon.1.2.2.2.2.2.2.2.1
                rw [i8 0 (by decide), i8 1 (by decide), i8 2 (by decide)]
                exact hS
              have vc3 : v_C F3 G2 22 v2 := v_C_fr b1 (fun c q1 q2 => f3n c (by omega)) rfl
              have ls := c_lineAfterStep_22_39_102 (d := d) (f := F3) (g := G2) (r := r) (t := t) (dm := dm) (n := n) (R := R) vc3 hB2 (x_SC_fr hSF (fun c q1 q2 => f3F c (by omega) (by omega) (by omega))) hS2 hk he
              rw [← hF3]
              refine x_wp_ok ok45 [42] 6 ?_
              refine Exists.intro _ (And.intro ls (And.intro (And.intro (Nat.zero_le _) (Nat.zero_le _)) (fun q h' hpo => ?_)))
              obtain ⟨rfl, F4, rfl, g1, g2⟩ := hpo
              have e2 : F4 102 = F3 102 := g1 102 (by decide)
              have ee := ih (i + 1) F4 G2 (if s 0 k = 24 then -1 else nI (y_nx s NL v2 k)) (y_nx s NL v2 k) (y_sR s R k) v2 (y_cc s v1 ch k) (st + 1) (mi + y_is (y_ac s v1 ch k) 0 1) (mo + y_mo s v1 ch k) (bo + y_bo s v1 ch k) le (by omega) (by omega) (by omega) hon.1 hfi ⟨v_C_fr vc3 (fun c q1 q2 => g1 c (by omega)) rfl, by rw [e2, f3j 2 (by decide)]; exact b5, by rw [e2, f3j 3 (by decide), b8 3 (by decide) (by decide) (by decide)]; exact f13, by rw [e2, f34, hy], by rw [e2, f3j 5 (by decide)]; exact b6, by rw [e2, f3j 6 (by decide)]; exact b7, by rw [e2, f3j 8 (by decide), b8 8 (by decide) (by decide) (by decide), f1j 8 (by decide)]; exact a7, fun q b q1 q2 q3 => ?_, fun c q1 q2 q3 q4 => (g1 c q4).trans ((f3F c q1 q2 q3).trans (a9 c q1 q2 q3 q4)), fun c q1 q2 q3 => (b4 c q1 q2).trans (a10 c q1 q2 q3), b2.trans a11⟩ ?_
              · rw [← nI_1o] at ee
                exact ee
              · apply g2
                by_cases hbk : b = k
                · exact Or.inr ⟨hbk, hbk ▸ q3⟩
                · refine Or.inl ?_
                  rw [f3F 103 (by decide) (by decide) (by decide)]
                  have key : b < k ∧ k ≤ s 4 b := by
                    have hb0 : y_op s b := Or.inr q3
                    have hnx : y_nx s NL v2 k = s 4 k + 1 ∧ y_op s k ∨ y_nx s NL v2 k = k + 1 := by
                      by_cases z24 : s 0 k = 24
                      · rw [show y_nx s NL v2 k = NL from if_pos z24] at q
                        exact absurd q (Nat.lt_irrefl _)
                      · by_cases zw : y_wn s k = true ∧ y_te s v2 k = false
                        · exact Or.inl ⟨(if_neg z24).trans (if_pos zw), Or.inl (of_decide_eq_true zw.1)⟩
                        · exact Or.inr ((if_neg z24).trans (if_neg zw))
                    rcases hnx with ⟨ez, hop⟩ | ez
                    · rw [ez] at q1 q2
                      have hp := hS.2.2.1 k hk hop
                      have hb4 : b ≠ s 4 k := fun q => by rw [q] at q3; omega
                      by_cases hlt : b < k
                      · omega
                      · have := hS.2.2.2.2 k b (by omega) (by omega) hp.2.1 hop hb0
                        omega
                    · rw [ez] at q1 q2
                      omega
                  exact a8 hk b key.1 key.2 q3
              · by_cases z24 : s 0 k = 24
                · exact Or.inr ⟨if_pos z24, by rw [show y_nx s NL v2 k = NL from if_pos z24]; exact Nat.lt_irrefl _⟩
                · exact Or.inl (if_neg z24)
            cases ho : y_ac s v1 ch k with
            | none =>
              refine And.intro (fun _ => ?_) (fun c => absurd rfl c)
              have e := rest (mi + 1) (by rw [ho]; rfl)
              rw [← nI_1, ← a4, ← (show x_up F 102 3 (F 102 3 + 1) 102 4 = F 102 4 from rfl)] at e
              exact e
            | some z =>
              refine And.intro (fun c => absurd (show (1 : Int32) = 0 from c) (by decide)) (fun _ => ?_)
              have e := rest mi (by rw [ho]; rfl)
              rw [← a4, show F 102 4 = F 102 4 + 0 from (Int32.add_zero _).symm, ← (show x_up F 102 3 (F 102 3 + 1) 102 4 = F 102 4 from rfl)] at e
              exact e
          · have c2 : ¬ F 102 3 < nI 300 := c2
            rw [a3, nI_ltI (by omega) (by decide)] at c2
            have eo : y_one s NL (k, R, v1, ch, st, mi, mo, bo, le) = (NL, R, v1, ch, st, mi, mo, bo, true) := (if_neg he).trans (if_pos (by omega))
            rw [eo] at hon hfi
            have up : ∀ j, j ≠ 8 → x_up F 102 8 1 102 j = F 102 j := fun j hj => by
              unfold x_up
              rw [x_us, x_un hj]
            refine And.intro (Or.inr rfl) ?_
            have ee := ih (i + 1) (x_up F 102 8 1) G (-1) NL R v1 ch st mi mo bo true (by omega) (by omega) (by omega) hon.1 hfi ⟨v_C_fr a1 (fun c q1 q2 => x_un (by omega)) rfl, by rw [up 2 (by decide)]; exact a2, by rw [up 3 (by decide)]; exact a3, by rw [up 4 (by decide)]; exact a4, by rw [up 5 (by decide)]; exact a5, by rw [up 6 (by decide)]; exact a6, by unfold x_up; rw [x_us, x_us]; rfl, fun q => absurd q (Nat.lt_irrefl _), fun c q1 q2 q3 q4 => (x_un q3).trans (a9 c q1 q2 q3 q4), a10, a11⟩ (Or.inr ⟨rfl, Nat.lt_irrefl _⟩)
            rw [← nI_1o] at ee
            exact ee
        · have c : F 40 k = nI 23 := c
          rw [hw, nI_eq (by omega) (by decide)] at c
          have he : s 0 k = 23 := by
            unfold y_wd at c
            split at c <;> omega
          obtain ⟨e1, e2, e3⟩ := y_SV_end hS hk he
          have eo : y_one s NL (k, R, v1, ch, st, mi, mo, bo, le) = (y_ek s R k, y_eR s R k, v1, ch, st, mi, mo, bo, le) := if_pos he
          rw [eo] at hon hfi
          have le := c_lineAfterEnd_39_102 (d := d + 4) (f := F) (g := G) (r := r) (t := t) (dm := dm) (n := n) (R := R) hSF hS1 hk he (fun q => ⟨a8 hk (s 4 k) e1 (by omega) q, i11 hk (s 4 k) e1 (by omega) q⟩)
          refine Exists.intro _ (And.intro le (And.intro (And.intro (Nat.zero_le _) (Nat.zero_le _)) (fun q h' hpo => ?_)))
          obtain ⟨rfl, F4, rfl, g1, g2⟩ := hpo
          have ez : F4 102 = F 102 := g1 102 (by decide)
          have ee := ih (i + 1) F4 G (nI (y_ek s R k)) (y_ek s R k) (y_eR s R k) v1 ch st mi mo bo _ (by omega) (by omega) (by omega) hon.1 hfi ⟨v_C_fr a1 (fun c q1 q2 => g1 c (by omega)) rfl, by rw [ez]; exact a2, by rw [ez]; exact a3, by rw [ez]; exact a4, by rw [ez]; exact a5, by rw [ez]; exact a6, by rw [ez]; exact a7, fun q b q1 q2 q3 => ?_, fun c q1 q2 q3 q4 => (g1 c q4).trans (a9 c q1 q2 q3 q4), a10, a11⟩ (Or.inl rfl)
          · rw [← nI_1o] at ee
            exact ee
          · apply g2
            have hb0 : y_op s b := Or.inr q3
            have key : b < k ∧ k ≤ s 4 b := by
              have hek : (y_ek s R k = s 4 k + 1) ∨ y_ek s R k = k + 1 := by
                unfold y_ek
                split
                · exact Or.inl rfl
                · exact Or.inr rfl
              rcases hek with ez | ez
              · rw [ez] at q1 q2
                by_cases hbb : b = s 4 k
                · rw [hbb, e3]
                  omega
                · have hp := hS.2.2.1 b (by omega) hb0
                  have := hS.2.2.2.2 b (s 4 k) (by omega) (by omega) hp.2.1 hb0 e2
                  omega
              · rw [ez] at q1 q2
                have hbk : b ≠ k := fun q => by rw [q] at q3; omega
                omega
            exact a8 hk b key.1 key.2 q3
      · exact ih i F G x k R v1 ch st mi mo bo le (by
          rw [show y_mu s NL (k, R, v1, ch, st, mi, mo, bo, le) = 0 from if_neg hk]
          exact Nat.zero_le _) (by omega) (by omega) h4 h5 h6 h7
  have h16 : g 22 6 = lN (v 16 0 0) := hC.2.1
  obtain ⟨F, hF⟩ : ∃ F, F = x_up (x_up (x_up (x_up (x_up (x_up f 102 2 (nI seed)) 102 3 0) 102 4 0) 102 5 0) 102 6 0) 102 8 0 := ⟨_, rfl⟩
  have fn : ∀ c, c ≠ 102 → F c = f c := fun c hc => by rw [hF]; exact (x_un hc).trans ((x_un hc).trans ((x_un hc).trans ((x_un hc).trans ((x_un hc).trans (x_un hc)))))
  have ee := loop 50000 0 F g 0 0 (fun _ => 0) v seed 0 0 0 0 false (y_mu_0 hS) (Nat.le_refl _) (by decide) (y_in_0 hBn hs) hE.symm ⟨v_C_fr hC (fun c q1 q2 => fn c (by omega)) rfl, by rw [hF]; rfl, by rw [hF]; rfl, by rw [hF]; rfl, by rw [hF]; rfl, by rw [hF]; rfl, by rw [hF]; rfl, fun _ b hb => absurd hb (Nat.not_lt_zero _), fun c _ _ q3 _ => fn c q3, fun _ _ _ _ => rfl, rfl⟩ (Or.inl rfl)
  refine x_Ct_w (by decide) (Nat.le_of_ble_eq_true rfl) ok45 [42] 6 ?_
  refine And.intro (Or.inl rfl) ?_
  rw [hF, ← h16] at ee
  exact ee
theorem c_unfold_12_39_104 {seed : Nat} (hC : v_C f g 12 v) (hBn : v_Bn N v) (hN : N + 2 ^ 33 < 2 ^ 60) (hSC : x_SC f 39 s NL) (hS : y_SV s NL (v 2 0 0) (v 0 0 0) (v 1 0 0)) (hs : seed < 65536) : x_Ct 45 (d + 5) [.ref 104, .ref 12, .ref 39, .int (nI seed)] (f, g, x_HR r t, dm, n) (x_PU f g 12 104 s NL (x_HR r t) dm n (v 16 0 0) (y_fin s NL (0, (fun _ => 0), v, seed, 0, 0, 0, 0, false))) := by
  have hNL := hS.1
  obtain ⟨E, hE⟩ : ∃ E, E = y_fin s NL (0, (fun _ => 0), v, seed, 0, 0, 0, 0, false) := ⟨_, rfl⟩
  rw [← hE]
  have fin : ∀ F G x i, x_EC f g 12 104 s NL F G E → v 16 0 0 ≤ E.2.2.1 16 0 0 → x_J 45 (d + 5) (x_PU f g 12 104 s NL (x_HR r t) dm n (v 16 0 0) E) 159 [some (.ref 104), some (.ref 12), some (.ref 39), some (.int (nI seed)), some (.long (lN (v 16 0 0))), none, some (.int x), some (.int i)] [] (F, G, x_HR r t, dm, n) 0 0 := by
    intro F G x i hF hq
    obtain ⟨k, R, v1, ch, st, mi, mo, bo, le⟩ := E
    obtain ⟨a1, a2, a3, a4, a5, a6, a7, a8, a9, a10, a11⟩ := hF
    have a16 : G 12 6 = lN (v1 16 0 0) := a1.2.1
    refine x_wp_ok ok45 [] 6 ?_
    refine And.intro ?_ ⟨trivial, Nat.le_refl _, Nat.le_refl _⟩
    refine ⟨_, _, rfl, rfl, ⟨v_C_fr a1 (fun _ _ _ => rfl) (x_un (by decide)), a2, a3, a4, a5, a6, a7, a8, a9, fun c h1 h2 h3 => (x_un h3).trans (a10 c h1 h2 h3), (x_un (by decide)).trans a11⟩, ?_⟩
    unfold x_up
    rw [x_us, x_us]
    show G 12 6 - lN (v 16 0 0) = _
    rw [a16]
    exact lN_sub hq
  have loop : ∀ m i F G x k R v1 ch st mi mo bo le, y_mu s NL (k, R, v1, ch, st, mi, mo, bo, le) ≤ m → m ≤ 50000 → i + m ≤ 60000 → y_in s NL N (v 16 0 0) v (k, R, v1, ch, st, mi, mo, bo, le) → y_fin s NL (k, R, v1, ch, st, mi, mo, bo, le) = E → x_EC f g 12 104 s NL F G (k, R, v1, ch, st, mi, mo, bo, le) → (x = nI k ∨ (x = -1 ∧ ¬ k < NL)) → x_J 45 (d + 5) (x_PU f g 12 104 s NL (x_HR r t) dm n (v 16 0 0) E) 42 [some (.ref 104), some (.ref 12), some (.ref 39), some (.int (nI seed)), some (.long (lN (v 16 0 0))), none, some (.int x), some (.int (nI i))] [] (F, G, x_HR r t, dm, n) 0 0 := by
    intro m
    induction m with
    | zero =>
      intro i F G x k R v1 ch st mi mo bo le h1 h2 h3 h4 h5 h6 h7
      have hk : ¬ k < NL := by
        intro q
        have : y_mu s NL (k, R, v1, ch, st, mi, mo, bo, le) = 1 + 161 * (300 - st) + y_ps s R k := if_pos q
        omega
      have hE2 : (k, R, v1, ch, st, mi, mo, bo, le) = E := (y_fin_0 hk).symm.trans h5
      have hkN : k = NL := Nat.le_antisymm h4.1 (by omega)
      have hq0 : v 16 0 0 ≤ v1 16 0 0 := h4.2.2.2.2.2.2.2.2.1
      have e := fin F G x (nI i) (hE2 ▸ h6) (hE2 ▸ hq0)
      have hl : F 39 2 = nI NL := by rw [h6.2.2.2.2.2.2.2.2.1 39 (by decide) (by decide) (by decide) (by decide)]; exact hSC.1
      refine x_wp_ok ok45 [159] 6 ?_
      refine And.intro (fun c => absurd (show nI 1000000 ≤ nI i from c) (nI_ge (by omega) (by decide))) (fun _ => ?_)
      refine And.intro (fun c => ?_) (fun c => ?_)
      · exact e
      · refine And.intro (fun c2 => ?_) (fun c2 => ?_)
        · exact e
        · have c2 : ¬ F 39 2 ≤ x := c2
          rcases h7 with q | ⟨q, _⟩
          · rw [hl, q, hkN] at c2
            exact absurd (nI_le (Nat.le_refl _) (by omega)) c2
          · have c : ¬ x < 0 := c
            rw [q] at c
            exact absurd (by decide) c
    | succ m ih =>
      intro i F G x k R v1 ch st mi mo bo le h1 h2 h3 h4 h5 h6 h7
      by_cases hk : k < NL
      · obtain ⟨i1, i2, i3, i4, i5, i6, i7, i8, i9, i10, i11⟩ := id h4
        obtain ⟨a1, a2, a3, a4, a5, a6, a7, a8, a9, a10, a11⟩ := id h6
        have hon := y_in_one hS hN hk h4
        have hfi := (y_fin_one hS hN h4 (by omega) hk).trans h5
        have hx : x = nI k := h7.resolve_right (fun q => q.2 hk)
        subst hx
        have hB1 := v_Bn_B i7 (by omega)
        have hS1 : y_SV s NL (v1 2 0 0) (v1 0 0 0) (v1 1 0 0) := by
          rw [i8 0 (by decide), i8 1 (by decide), i8 2 (by decide)]
          exact hS
        have hSF : x_SC F 39 s NL := x_SC_fr hSC (fun c q1 q2 => a9 c (by omega) (by omega) (by omega) (by omega))
        have hl : F 39 2 = nI NL := hSF.1
        have hw : F 40 k = nI (y_wd (s 0 k)) := (hSF.2 k hk).1
        have h24 := y_li_24 (hS.2.1 k hk)
        have hw24 := y_wd_24 h24.2
        have hli1 := hS1.2.1 k hk
        refine x_wp_ok ok45 [42, 143] 9 ?_
        refine And.intro (fun c => absurd (show nI 1000000 ≤ nI i from c) (nI_ge (by omega) (by decide))) (fun _ => ?_)
        refine And.intro (fun c => absurd (show nI k < 0 from c) (nI_pos (by omega))) (fun _ => ?_)
        refine And.intro (fun c => absurd (show F 39 2 ≤ nI k from c) (by rw [hl]; exact nI_ge hk (by omega))) (fun _ => ?_)
        refine And.intro (x_ix_nI (by omega) (by omega)) ?_
        rw [nI_clamp (by omega)]
        refine And.intro (fun c => ?_) (fun c => ?_)
        · have c : ¬ F 40 k = nI 23 := c
          rw [hw, nI_eq (by omega) (by decide)] at c
          have he : s 0 k ≠ 23 := by
            intro q
            apply c
            rw [q]
            rfl
          refine And.intro (fun c2 => ?_) (fun c2 => ?_)
          · have c2 : F 104 3 < nI 300 := c2
            rw [a3, nI_ltI (by omega) (by decide)] at c2
            have eo : y_one s NL (k, R, v1, ch, st, mi, mo, bo, le) = (y_nx s NL (x_oV v1 (y_ac s v1 ch k)) k, y_sR s R k, x_oV v1 (y_ac s v1 ch k), y_cc s v1 ch k, st + 1, mi + y_is (y_ac s v1 ch k) 0 1, mo + y_mo s v1 ch k, bo + y_bo s v1 ch k, le) := (if_neg he).trans (if_neg (by omega))
            rw [eo] at hon hfi
            obtain ⟨v2, hv2⟩ : ∃ v2, v2 = x_oV v1 (y_ac s v1 ch k) := ⟨_, rfl⟩
            have e3 : F 104 3 + 1 = nI (st + 1) := by rw [a3, nI_1]
            obtain ⟨F1, hF1⟩ : ∃ F1, F1 = x_up F 104 3 (F 104 3 + 1) := ⟨_, rfl⟩
            have f1n : ∀ c, c ≠ 104 → F1 c = F c := fun c hc => by rw [hF1]; exact x_un hc
            have f1j : ∀ j, j ≠ 3 → F1 104 j = F 104 j := fun j hj => by
              rw [hF1]
              unfold x_up
              rw [x_us, x_un hj]
            have f13 : F1 104 3 = nI (st + 1) := by
              rw [hF1, ← e3]
              unfold x_up
              rw [x_us, x_us]
            have dn := c_isDone_12_39_104 (d := d) (f := F1) (g := G) (r := r) (t := t) (dm := dm) (n := n) (ch := ch) (mo := mo) (bo := bo) (v_C_fr a1 (fun c q1 q2 => f1n c (by omega)) rfl) i7 (by omega) (x_SC_fr hSF (fun c q1 q2 => f1n c (by omega))) hNL hk hli1 he i3 ((f1j 2 (by decide)).trans a2) ((f1j 5 (by decide)).trans a5) ((f1j 6 (by decide)).trans a6)
            rw [hF1] at dn
            refine Exists.intro _ (And.intro dn (And.intro (And.intro (Nat.zero_le _) (Nat.zero_le _)) (fun q h' hpo => ?_)))
            obtain ⟨F2, G2, rfl, rfl, hF2⟩ := hpo
            rw [← hF1, ← hv2] at hF2
            obtain ⟨b1, b2, b3, b4, b5, b6, b7, b8⟩ := hF2
            have b84 : F2 104 4 = nI mi := (b8 4 (by decide) (by decide) (by decide)).trans ((f1j 4 (by decide)).trans a4)
            have rest : ∀ y, y = mi + y_is (y_ac s v1 ch k) 0 1 → x_J 45 (d + 5) (x_PU f g 12 104 s NL (x_HR r t) dm n (v 16 0 0) E) 143 [some (.ref 104), some (.ref 12), some (.ref 39), some (.int (nI seed)), some (.long (lN (v 16 0 0))), none, some (.int (nI k)), some (.int (nI i))] [] (x_up F2 104 4 (nI y), G2, x_HR r t, dm, n) 0 0 := by
              intro y hy
              obtain ⟨F3, hF3⟩ : ∃ F3, F3 = x_up F2 104 4 (nI y) := ⟨_, rfl⟩
              have f3n : ∀ c, c ≠ 104 → F3 c = F2 c := fun c hc => by rw [hF3]; exact x_un hc
              have f3j : ∀ j, j ≠ 4 → F3 104 j = F2 104 j := fun j hj => by
                rw [hF3]
                unfold x_up
                rw [x_us, x_un hj]
              have f34 : F3 104 4 = nI y := by
                rw [hF3]
                unfold x_up
                rw [x_us, x_us]
              have hon := hon
              have hfi := hfi
              rw [← hv2] at hon hfi
              have f3F : ∀ c, c < 12 ∨ 12 + 9 < c → c ≠ 100 → c ≠ 104 → F3 c = F c := fun c q1 q2 q3 => (f3n c q3).trans ((b3 c q1 q2 q3).trans (f1n c q3))
              have hkp := hon.1.2.2.2.2.2.2.1
              have hB2 := v_Bn_B hkp (y_N3 c2 hN)
              have hS2 : y_SV s NL (v2 2 0 0) (v2 0 0 0) (v2 1 0 0) := by
                have i8 := hon.1.2.2.2.2.2.2.2.1
                rw [i8 0 (by decide), i8 1 (by decide), i8 2 (by decide)]
                exact hS
              have vc3 : v_C F3 G2 12 v2 := v_C_fr b1 (fun c q1 q2 => f3n c (by omega)) rfl
              have ls := c_lineAfterStep_12_39_104 (d := d) (f := F3) (g := G2) (r := r) (t := t) (dm := dm) (n := n) (R := R) vc3 hB2 (x_SC_fr hSF (fun c q1 q2 => f3F c (by omega) (by omega) (by omega))) hS2 hk he
              rw [← hF3]
              refine x_wp_ok ok45 [42] 6 ?_
              refine Exists.intro _ (And.intro ls (And.intro (And.intro (Nat.zero_le _) (Nat.zero_le _)) (fun q h' hpo => ?_)))
              obtain ⟨rfl, F4, rfl, g1, g2⟩ := hpo
              have e2 : F4 104 = F3 104 := g1 104 (by decide)
              have ee := ih (i + 1) F4 G2 (if s 0 k = 24 then -1 else nI (y_nx s NL v2 k)) (y_nx s NL v2 k) (y_sR s R k) v2 (y_cc s v1 ch k) (st + 1) (mi + y_is (y_ac s v1 ch k) 0 1) (mo + y_mo s v1 ch k) (bo + y_bo s v1 ch k) le (by omega) (by omega) (by omega) hon.1 hfi ⟨v_C_fr vc3 (fun c q1 q2 => g1 c (by omega)) rfl, by rw [e2, f3j 2 (by decide)]; exact b5, by rw [e2, f3j 3 (by decide), b8 3 (by decide) (by decide) (by decide)]; exact f13, by rw [e2, f34, hy], by rw [e2, f3j 5 (by decide)]; exact b6, by rw [e2, f3j 6 (by decide)]; exact b7, by rw [e2, f3j 8 (by decide), b8 8 (by decide) (by decide) (by decide), f1j 8 (by decide)]; exact a7, fun q b q1 q2 q3 => ?_, fun c q1 q2 q3 q4 => (g1 c q4).trans ((f3F c q1 q2 q3).trans (a9 c q1 q2 q3 q4)), fun c q1 q2 q3 => (b4 c q1 q2).trans (a10 c q1 q2 q3), b2.trans a11⟩ ?_
              · rw [← nI_1o] at ee
                exact ee
              · apply g2
                by_cases hbk : b = k
                · exact Or.inr ⟨hbk, hbk ▸ q3⟩
                · refine Or.inl ?_
                  rw [f3F 105 (by decide) (by decide) (by decide)]
                  have key : b < k ∧ k ≤ s 4 b := by
                    have hb0 : y_op s b := Or.inr q3
                    have hnx : y_nx s NL v2 k = s 4 k + 1 ∧ y_op s k ∨ y_nx s NL v2 k = k + 1 := by
                      by_cases z24 : s 0 k = 24
                      · rw [show y_nx s NL v2 k = NL from if_pos z24] at q
                        exact absurd q (Nat.lt_irrefl _)
                      · by_cases zw : y_wn s k = true ∧ y_te s v2 k = false
                        · exact Or.inl ⟨(if_neg z24).trans (if_pos zw), Or.inl (of_decide_eq_true zw.1)⟩
                        · exact Or.inr ((if_neg z24).trans (if_neg zw))
                    rcases hnx with ⟨ez, hop⟩ | ez
                    · rw [ez] at q1 q2
                      have hp := hS.2.2.1 k hk hop
                      have hb4 : b ≠ s 4 k := fun q => by rw [q] at q3; omega
                      by_cases hlt : b < k
                      · omega
                      · have := hS.2.2.2.2 k b (by omega) (by omega) hp.2.1 hop hb0
                        omega
                    · rw [ez] at q1 q2
                      omega
                  exact a8 hk b key.1 key.2 q3
              · by_cases z24 : s 0 k = 24
                · exact Or.inr ⟨if_pos z24, by rw [show y_nx s NL v2 k = NL from if_pos z24]; exact Nat.lt_irrefl _⟩
                · exact Or.inl (if_neg z24)
            cases ho : y_ac s v1 ch k with
            | none =>
              refine And.intro (fun _ => ?_) (fun c => absurd rfl c)
              have e := rest (mi + 1) (by rw [ho]; rfl)
              rw [← nI_1, ← a4, ← (show x_up F 104 3 (F 104 3 + 1) 104 4 = F 104 4 from rfl)] at e
              exact e
            | some z =>
              refine And.intro (fun c => absurd (show (1 : Int32) = 0 from c) (by decide)) (fun _ => ?_)
              have e := rest mi (by rw [ho]; rfl)
              rw [← a4, show F 104 4 = F 104 4 + 0 from (Int32.add_zero _).symm, ← (show x_up F 104 3 (F 104 3 + 1) 104 4 = F 104 4 from rfl)] at e
              exact e
          · have c2 : ¬ F 104 3 < nI 300 := c2
            rw [a3, nI_ltI (by omega) (by decide)] at c2
            have eo : y_one s NL (k, R, v1, ch, st, mi, mo, bo, le) = (NL, R, v1, ch, st, mi, mo, bo, true) := (if_neg he).trans (if_pos (by omega))
            rw [eo] at hon hfi
            have up : ∀ j, j ≠ 8 → x_up F 104 8 1 104 j = F 104 j := fun j hj => by
              unfold x_up
              rw [x_us, x_un hj]
            refine And.intro (Or.inr rfl) ?_
            have ee := ih (i + 1) (x_up F 104 8 1) G (-1) NL R v1 ch st mi mo bo true (by omega) (by omega) (by omega) hon.1 hfi ⟨v_C_fr a1 (fun c q1 q2 => x_un (by omega)) rfl, by rw [up 2 (by decide)]; exact a2, by rw [up 3 (by decide)]; exact a3, by rw [up 4 (by decide)]; exact a4, by rw [up 5 (by decide)]; exact a5, by rw [up 6 (by decide)]; exact a6, by unfold x_up; rw [x_us, x_us]; rfl, fun q => absurd q (Nat.lt_irrefl _), fun c q1 q2 q3 q4 => (x_un q3).trans (a9 c q1 q2 q3 q4), a10, a11⟩ (Or.inr ⟨rfl, Nat.lt_irrefl _⟩)
            rw [← nI_1o] at ee
            exact ee
        · have c : F 40 k = nI 23 := c
          rw [hw, nI_eq (by omega) (by decide)] at c
          have he : s 0 k = 23 := by
            unfold y_wd at c
            split at c <;> omega
          obtain ⟨e1, e2, e3⟩ := y_SV_end hS hk he
          have eo : y_one s NL (k, R, v1, ch, st, mi, mo, bo, le) = (y_ek s R k, y_eR s R k, v1, ch, st, mi, mo, bo, le) := if_pos he
          rw [eo] at hon hfi
          have le := c_lineAfterEnd_39_104 (d := d + 4) (f := F) (g := G) (r := r) (t := t) (dm := dm) (n := n) (R := R) hSF hS1 hk he (fun q => ⟨a8 hk (s 4 k) e1 (by omega) q, i11 hk (s 4 k) e1 (by omega) q⟩)
          refine Exists.intro _ (And.intro le (And.intro (And.intro (Nat.zero_le _) (Nat.zero_le _)) (fun q h' hpo => ?_)))
          obtain ⟨rfl, F4, rfl, g1, g2⟩ := hpo
          have ez : F4 104 = F 104 := g1 104 (by decide)
          have ee := ih (i + 1) F4 G (nI (y_ek s R k)) (y_ek s R k) (y_eR s R k) v1 ch st mi mo bo _ (by omega) (by omega) (by omega) hon.1 hfi ⟨v_C_fr a1 (fun c q1 q2 => g1 c (by omega)) rfl, by rw [ez]; exact a2, by rw [ez]; exact a3, by rw [ez]; exact a4, by rw [ez]; exact a5, by rw [ez]; exact a6, by rw [ez]; exact a7, fun q b q1 q2 q3 => ?_, fun c q1 q2 q3 q4 => (g1 c q4).trans (a9 c q1 q2 q3 q4), a10, a11⟩ (Or.inl rfl)
          · rw [← nI_1o] at ee
            exact ee
          · apply g2
            have hb0 : y_op s b := Or.inr q3
            have key : b < k ∧ k ≤ s 4 b := by
              have hek : (y_ek s R k = s 4 k + 1) ∨ y_ek s R k = k + 1 := by
                unfold y_ek
                split
                · exact Or.inl rfl
                · exact Or.inr rfl
              rcases hek with ez | ez
              · rw [ez] at q1 q2
                by_cases hbb : b = s 4 k
                · rw [hbb, e3]
                  omega
                · have hp := hS.2.2.1 b (by omega) hb0
                  have := hS.2.2.2.2 b (s 4 k) (by omega) (by omega) hp.2.1 hb0 e2
                  omega
              · rw [ez] at q1 q2
                have hbk : b ≠ k := fun q => by rw [q] at q3; omega
                omega
            exact a8 hk b key.1 key.2 q3
      · exact ih i F G x k R v1 ch st mi mo bo le (by
          rw [show y_mu s NL (k, R, v1, ch, st, mi, mo, bo, le) = 0 from if_neg hk]
          exact Nat.zero_le _) (by omega) (by omega) h4 h5 h6 h7
  have h16 : g 12 6 = lN (v 16 0 0) := hC.2.1
  obtain ⟨F, hF⟩ : ∃ F, F = x_up (x_up (x_up (x_up (x_up (x_up f 104 2 (nI seed)) 104 3 0) 104 4 0) 104 5 0) 104 6 0) 104 8 0 := ⟨_, rfl⟩
  have fn : ∀ c, c ≠ 104 → F c = f c := fun c hc => by rw [hF]; exact (x_un hc).trans ((x_un hc).trans ((x_un hc).trans ((x_un hc).trans ((x_un hc).trans (x_un hc)))))
  have ee := loop 50000 0 F g 0 0 (fun _ => 0) v seed 0 0 0 0 false (y_mu_0 hS) (Nat.le_refl _) (by decide) (y_in_0 hBn hs) hE.symm ⟨v_C_fr hC (fun c q1 q2 => fn c (by omega)) rfl, by rw [hF]; rfl, by rw [hF]; rfl, by rw [hF]; rfl, by rw [hF]; rfl, by rw [hF]; rfl, by rw [hF]; rfl, fun _ b hb => absurd hb (Nat.not_lt_zero _), fun c _ _ q3 _ => fn c q3, fun _ _ _ _ => rfl, rfl⟩ (Or.inl rfl)
  refine x_Ct_w (by decide) (Nat.le_of_ble_eq_true rfl) ok45 [42] 6 ?_
  refine And.intro (Or.inl rfl) ?_
  rw [hF, ← h16] at ee
  exact ee
theorem c_unfold_22_39_104 {seed : Nat} (hC : v_C f g 22 v) (hBn : v_Bn N v) (hN : N + 2 ^ 33 < 2 ^ 60) (hSC : x_SC f 39 s NL) (hS : y_SV s NL (v 2 0 0) (v 0 0 0) (v 1 0 0)) (hs : seed < 65536) : x_Ct 45 (d + 5) [.ref 104, .ref 22, .ref 39, .int (nI seed)] (f, g, x_HR r t, dm, n) (x_PU f g 22 104 s NL (x_HR r t) dm n (v 16 0 0) (y_fin s NL (0, (fun _ => 0), v, seed, 0, 0, 0, 0, false))) := by
  have hNL := hS.1
  obtain ⟨E, hE⟩ : ∃ E, E = y_fin s NL (0, (fun _ => 0), v, seed, 0, 0, 0, 0, false) := ⟨_, rfl⟩
  rw [← hE]
  have fin : ∀ F G x i, x_EC f g 22 104 s NL F G E → v 16 0 0 ≤ E.2.2.1 16 0 0 → x_J 45 (d + 5) (x_PU f g 22 104 s NL (x_HR r t) dm n (v 16 0 0) E) 159 [some (.ref 104), some (.ref 22), some (.ref 39), some (.int (nI seed)), some (.long (lN (v 16 0 0))), none, some (.int x), some (.int i)] [] (F, G, x_HR r t, dm, n) 0 0 := by
    intro F G x i hF hq
    obtain ⟨k, R, v1, ch, st, mi, mo, bo, le⟩ := E
    obtain ⟨a1, a2, a3, a4, a5, a6, a7, a8, a9, a10, a11⟩ := hF
    have a16 : G 22 6 = lN (v1 16 0 0) := a1.2.1
    refine x_wp_ok ok45 [] 6 ?_
    refine And.intro ?_ ⟨trivial, Nat.le_refl _, Nat.le_refl _⟩
    refine ⟨_, _, rfl, rfl, ⟨v_C_fr a1 (fun _ _ _ => rfl) (x_un (by decide)), a2, a3, a4, a5, a6, a7, a8, a9, fun c h1 h2 h3 => (x_un h3).trans (a10 c h1 h2 h3), (x_un (by decide)).trans a11⟩, ?_⟩
    unfold x_up
    rw [x_us, x_us]
    show G 22 6 - lN (v 16 0 0) = _
    rw [a16]
    exact lN_sub hq
  have loop : ∀ m i F G x k R v1 ch st mi mo bo le, y_mu s NL (k, R, v1, ch, st, mi, mo, bo, le) ≤ m → m ≤ 50000 → i + m ≤ 60000 → y_in s NL N (v 16 0 0) v (k, R, v1, ch, st, mi, mo, bo, le) → y_fin s NL (k, R, v1, ch, st, mi, mo, bo, le) = E → x_EC f g 22 104 s NL F G (k, R, v1, ch, st, mi, mo, bo, le) → (x = nI k ∨ (x = -1 ∧ ¬ k < NL)) → x_J 45 (d + 5) (x_PU f g 22 104 s NL (x_HR r t) dm n (v 16 0 0) E) 42 [some (.ref 104), some (.ref 22), some (.ref 39), some (.int (nI seed)), some (.long (lN (v 16 0 0))), none, some (.int x), some (.int (nI i))] [] (F, G, x_HR r t, dm, n) 0 0 := by
    intro m
    induction m with
    | zero =>
      intro i F G x k R v1 ch st mi mo bo le h1 h2 h3 h4 h5 h6 h7
      have hk : ¬ k < NL := by
        intro q
        have : y_mu s NL (k, R, v1, ch, st, mi, mo, bo, le) = 1 + 161 * (300 - st) + y_ps s R k := if_pos q
        omega
      have hE2 : (k, R, v1, ch, st, mi, mo, bo, le) = E := (y_fin_0 hk).symm.trans h5
      have hkN : k = NL := Nat.le_antisymm h4.1 (by omega)
      have hq0 : v 16 0 0 ≤ v1 16 0 0 := h4.2.2.2.2.2.2.2.2.1
      have e := fin F G x (nI i) (hE2 ▸ h6) (hE2 ▸ hq0)
      have hl : F 39 2 = nI NL := by rw [h6.2.2.2.2.2.2.2.2.1 39 (by decide) (by decide) (by decide) (by decide)]; exact hSC.1
      refine x_wp_ok ok45 [159] 6 ?_
      refine And.intro (fun c => absurd (show nI 1000000 ≤ nI i from c) (nI_ge (by omega) (by decide))) (fun _ => ?_)
      refine And.intro (fun c => ?_) (fun c => ?_)
      · exact e
      · refine And.intro (fun c2 => ?_) (fun c2 => ?_)
        · exact e
        · have c2 : ¬ F 39 2 ≤ x := c2
          rcases h7 with q | ⟨q, _⟩
          · rw [hl, q, hkN] at c2
            exact absurd (nI_le (Nat.le_refl _) (by omega)) c2
          · have c : ¬ x < 0 := c
            rw [q] at c
            exact absurd (by decide) c
    | succ m ih =>
      intro i F G x k R v1 ch st mi mo bo le h1 h2 h3 h4 h5 h6 h7
      by_cases hk : k < NL
      · obtain ⟨i1, i2, i3, i4, i5, i6, i7, i8, i9, i10, i11⟩ := id h4
        obtain ⟨a1, a2, a3, a4, a5, a6, a7, a8, a9, a10, a11⟩ := id h6
        have hon := y_in_one hS hN hk h4
        have hfi := (y_fin_one hS hN h4 (by omega) hk).trans h5
        have hx : x = nI k := h7.resolve_right (fun q => q.2 hk)
        subst hx
        have hB1 := v_Bn_B i7 (by omega)
        have hS1 : y_SV s NL (v1 2 0 0) (v1 0 0 0) (v1 1 0 0) := by
          rw [i8 0 (by decide), i8 1 (by decide), i8 2 (by decide)]
          exact hS
        have hSF : x_SC F 39 s NL := x_SC_fr hSC (fun c q1 q2 => a9 c (by omega) (by omega) (by omega) (by omega))
        have hl : F 39 2 = nI NL := hSF.1
        have hw : F 40 k = nI (y_wd (s 0 k)) := (hSF.2 k hk).1
        have h24 := y_li_24 (hS.2.1 k hk)
        have hw24 := y_wd_24 h24.2
        have hli1 := hS1.2.1 k hk
        refine x_wp_ok ok45 [42, 143] 9 ?_
        refine And.intro (fun c => absurd (show nI 1000000 ≤ nI i from c) (nI_ge (by omega) (by decide))) (fun _ => ?_)
        refine And.intro (fun c => absurd (show nI k < 0 from c) (nI_pos (by omega))) (fun _ => ?_)
        refine And.intro (fun c => absurd (show F 39 2 ≤ nI k from c) (by rw [hl]; exact nI_ge hk (by omega))) (fun _ => ?_)
        refine And.intro (x_ix_nI (by omega) (by omega)) ?_
        rw [nI_clamp (by omega)]
        refine And.intro (fun c => ?_) (fun c => ?_)
        · have c : ¬ F 40 k = nI 23 := c
          rw [hw, nI_eq (by omega) (by decide)] at c
          have he : s 0 k ≠ 23 := by
            intro q
            apply c
            rw [q]
            rfl
          refine And.intro (fun c2 => ?_) (fun c2 => ?_)
          · have c2 : F 104 3 < nI 300 := c2
            rw [a3, nI_ltI (by omega) (by decide)] at c2
            have eo : y_one s NL (k, R, v1, ch, st, mi, mo, bo, le) = (y_nx s NL (x_oV v1 (y_ac s v1 ch k)) k, y_sR s R k, x_oV v1 (y_ac s v1 ch k), y_cc s v1 ch k, st + 1, mi + y_is (y_ac s v1 ch k) 0 1, mo + y_mo s v1 ch k, bo + y_bo s v1 ch k, le) := (if_neg he).trans (if_neg (by omega))
            rw [eo] at hon hfi
            obtain ⟨v2, hv2⟩ : ∃ v2, v2 = x_oV v1 (y_ac s v1 ch k) := ⟨_, rfl⟩
            have e3 : F 104 3 + 1 = nI (st + 1) := by rw [a3, nI_1]
            obtain ⟨F1, hF1⟩ : ∃ F1, F1 = x_up F 104 3 (F 104 3 + 1) := ⟨_, rfl⟩
            have f1n : ∀ c, c ≠ 104 → F1 c = F c := fun c hc => by rw [hF1]; exact x_un hc
            have f1j : ∀ j, j ≠ 3 → F1 104 j = F 104 j := fun j hj => by
              rw [hF1]
              unfold x_up
              rw [x_us, x_un hj]
            have f13 : F1 104 3 = nI (st + 1) := by
              rw [hF1, ← e3]
              unfold x_up
              rw [x_us, x_us]
            have dn := c_isDone_22_39_104 (d := d) (f := F1) (g := G) (r := r) (t := t) (dm := dm) (n := n) (ch := ch) (mo := mo) (bo := bo) (v_C_fr a1 (fun c q1 q2 => f1n c (by omega)) rfl) i7 (by omega) (x_SC_fr hSF (fun c q1 q2 => f1n c (by omega))) hNL hk hli1 he i3 ((f1j 2 (by decide)).trans a2) ((f1j 5 (by decide)).trans a5) ((f1j 6 (by decide)).trans a6)
            rw [hF1] at dn
            refine Exists.intro _ (And.intro dn (And.intro (And.intro (Nat.zero_le _) (Nat.zero_le _)) (fun q h' hpo => ?_)))
            obtain ⟨F2, G2, rfl, rfl, hF2⟩ := hpo
            rw [← hF1, ← hv2] at hF2
            obtain ⟨b1, b2, b3, b4, b5, b6, b7, b8⟩ := hF2
            have b84 : F2 104 4 = nI mi := (b8 4 (by decide) (by decide) (by decide)).trans ((f1j 4 (by decide)).trans a4)
            have rest : ∀ y, y = mi + y_is (y_ac s v1 ch k) 0 1 → x_J 45 (d + 5) (x_PU f g 22 104 s NL (x_HR r t) dm n (v 16 0 0) E) 143 [some (.ref 104), some (.ref 22), some (.ref 39), some (.int (nI seed)), some (.long (lN (v 16 0 0))), none, some (.int (nI k)), some (.int (nI i))] [] (x_up F2 104 4 (nI y), G2, x_HR r t, dm, n) 0 0 := by
              intro y hy
              obtain ⟨F3, hF3⟩ : ∃ F3, F3 = x_up F2 104 4 (nI y) := ⟨_, rfl⟩
              have f3n : ∀ c, c ≠ 104 → F3 c = F2 c := fun c hc => by rw [hF3]; exact x_un hc
              have f3j : ∀ j, j ≠ 4 → F3 104 j = F2 104 j := fun j hj => by
                rw [hF3]
                unfold x_up
                rw [x_us, x_un hj]
              have f34 : F3 104 4 = nI y := by
                rw [hF3]
                unfold x_up
                rw [x_us, x_us]
              have hon := hon
              have hfi := hfi
              rw [← hv2] at hon hfi
              have f3F : ∀ c, c < 22 ∨ 22 + 9 < c → c ≠ 100 → c ≠ 104 → F3 c = F c := fun c q1 q2 q3 => (f3n c q3).trans ((b3 c q1 q2 q3).trans (f1n c q3))
              have hkp := hon.1.2.2.2.2.2.2.1
              have hB2 := v_Bn_B hkp (y_N3 c2 hN)
              have hS2 : y_SV s NL (v2 2 0 0) (v2 0 0 0) (v2 1 0 0) := by
                have i8 := hon.1.2.2.2.2.2.2.2.1
                rw [i8 0 (by decide), i8 1 (by decide), i8 2 (by decide)]
                exact hS
              have vc3 : v_C F3 G2 22 v2 := v_C_fr b1 (fun c q1 q2 => f3n c (by omega)) rfl
              have ls := c_lineAfterStep_22_39_104 (d := d) (f := F3) (g := G2) (r := r) (t := t) (dm := dm) (n := n) (R := R) vc3 hB2 (x_SC_fr hSF (fun c q1 q2 => f3F c (by omega) (by omega) (by omega))) hS2 hk he
              rw [← hF3]
              refine x_wp_ok ok45 [42] 6 ?_
              refine Exists.intro _ (And.intro ls (And.intro (And.intro (Nat.zero_le _) (Nat.zero_le _)) (fun q h' hpo => ?_)))
              obtain ⟨rfl, F4, rfl, g1, g2⟩ := hpo
              have e2 : F4 104 = F3 104 := g1 104 (by decide)
              have ee := ih (i + 1) F4 G2 (if s 0 k = 24 then -1 else nI (y_nx s NL v2 k)) (y_nx s NL v2 k) (y_sR s R k) v2 (y_cc s v1 ch k) (st + 1) (mi + y_is (y_ac s v1 ch k) 0 1) (mo + y_mo s v1 ch k) (bo + y_bo s v1 ch k) le (by omega) (by omega) (by omega) hon.1 hfi ⟨v_C_fr vc3 (fun c q1 q2 => g1 c (by omega)) rfl, by rw [e2, f3j 2 (by decide)]; exact b5, by rw [e2, f3j 3 (by decide), b8 3 (by decide) (by decide) (by decide)]; exact f13, by rw [e2, f34, hy], by rw [e2, f3j 5 (by decide)]; exact b6, by rw [e2, f3j 6 (by decide)]; exact b7, by rw [e2, f3j 8 (by decide), b8 8 (by decide) (by decide) (by decide), f1j 8 (by decide)]; exact a7, fun q b q1 q2 q3 => ?_, fun c q1 q2 q3 q4 => (g1 c q4).trans ((f3F c q1 q2 q3).trans (a9 c q1 q2 q3 q4)), fun c q1 q2 q3 => (b4 c q1 q2).trans (a10 c q1 q2 q3), b2.trans a11⟩ ?_
              · rw [← nI_1o] at ee
                exact ee
              · apply g2
                by_cases hbk : b = k
                · exact Or.inr ⟨hbk, hbk ▸ q3⟩
                · refine Or.inl ?_
                  rw [f3F 105 (by decide) (by decide) (by decide)]
                  have key : b < k ∧ k ≤ s 4 b := by
                    have hb0 : y_op s b := Or.inr q3
                    have hnx : y_nx s NL v2 k = s 4 k + 1 ∧ y_op s k ∨ y_nx s NL v2 k = k + 1 := by
                      by_cases z24 : s 0 k = 24
                      · rw [show y_nx s NL v2 k = NL from if_pos z24] at q
                        exact absurd q (Nat.lt_irrefl _)
                      · by_cases zw : y_wn s k = true ∧ y_te s v2 k = false
                        · exact Or.inl ⟨(if_neg z24).trans (if_pos zw), Or.inl (of_decide_eq_true zw.1)⟩
                        · exact Or.inr ((if_neg z24).trans (if_neg zw))
                    rcases hnx with ⟨ez, hop⟩ | ez
                    · rw [ez] at q1 q2
                      have hp := hS.2.2.1 k hk hop
                      have hb4 : b ≠ s 4 k := fun q => by rw [q] at q3; omega
                      by_cases hlt : b < k
                      · omega
                      · have := hS.2.2.2.2 k b (by omega) (by omega) hp.2.1 hop hb0
                        omega
                    · rw [ez] at q1 q2
                      omega
                  exact a8 hk b key.1 key.2 q3
              · by_cases z24 : s 0 k = 24
                · exact Or.inr ⟨if_pos z24, by rw [show y_nx s NL v2 k = NL from if_pos z24]; exact Nat.lt_irrefl _⟩
                · exact Or.inl (if_neg z24)
            cases ho : y_ac s v1 ch k with
            | none =>
              refine And.intro (fun _ => ?_) (fun c => absurd rfl c)
              have e := rest (mi + 1) (by rw [ho]; rfl)
              rw [← nI_1, ← a4, ← (show x_up F 104 3 (F 104 3 + 1) 104 4 = F 104 4 from rfl)] at e
              exact e
            | some z =>
              refine And.intro (fun c => absurd (show (1 : Int32) = 0 from c) (by decide)) (fun _ => ?_)
              have e := rest mi (by rw [ho]; rfl)
              rw [← a4, show F 104 4 = F 104 4 + 0 from (Int32.add_zero _).symm, ← (show x_up F 104 3 (F 104 3 + 1) 104 4 = F 104 4 from rfl)] at e
              exact e
          · have c2 : ¬ F 104 3 < nI 300 := c2
            rw [a3, nI_ltI (by omega) (by decide)] at c2
            have eo : y_one s NL (k, R, v1, ch, st, mi, mo, bo, le) = (NL, R, v1, ch, st, mi, mo, bo, true) := (if_neg he).trans (if_pos (by omega))
            rw [eo] at hon hfi
            have up : ∀ j, j ≠ 8 → x_up F 104 8 1 104 j = F 104 j := fun j hj => by
              unfold x_up
              rw [x_us, x_un hj]
            refine And.intro (Or.inr rfl) ?_
            have ee := ih (i + 1) (x_up F 104 8 1) G (-1) NL R v1 ch st mi mo bo true (by omega) (by omega) (by omega) hon.1 hfi ⟨v_C_fr a1 (fun c q1 q2 => x_un (by omega)) rfl, by rw [up 2 (by decide)]; exact a2, by rw [up 3 (by decide)]; exact a3, by rw [up 4 (by decide)]; exact a4, by rw [up 5 (by decide)]; exact a5, by rw [up 6 (by decide)]; exact a6, by unfold x_up; rw [x_us, x_us]; rfl, fun q => absurd q (Nat.lt_irrefl _), fun c q1 q2 q3 q4 => (x_un q3).trans (a9 c q1 q2 q3 q4), a10, a11⟩ (Or.inr ⟨rfl, Nat.lt_irrefl _⟩)
            rw [← nI_1o] at ee
            exact ee
        · have c : F 40 k = nI 23 := c
          rw [hw, nI_eq (by omega) (by decide)] at c
          have he : s 0 k = 23 := by
            unfold y_wd at c
            split at c <;> omega
          obtain ⟨e1, e2, e3⟩ := y_SV_end hS hk he
          have eo : y_one s NL (k, R, v1, ch, st, mi, mo, bo, le) = (y_ek s R k, y_eR s R k, v1, ch, st, mi, mo, bo, le) := if_pos he
          rw [eo] at hon hfi
          have le := c_lineAfterEnd_39_104 (d := d + 4) (f := F) (g := G) (r := r) (t := t) (dm := dm) (n := n) (R := R) hSF hS1 hk he (fun q => ⟨a8 hk (s 4 k) e1 (by omega) q, i11 hk (s 4 k) e1 (by omega) q⟩)
          refine Exists.intro _ (And.intro le (And.intro (And.intro (Nat.zero_le _) (Nat.zero_le _)) (fun q h' hpo => ?_)))
          obtain ⟨rfl, F4, rfl, g1, g2⟩ := hpo
          have ez : F4 104 = F 104 := g1 104 (by decide)
          have ee := ih (i + 1) F4 G (nI (y_ek s R k)) (y_ek s R k) (y_eR s R k) v1 ch st mi mo bo _ (by omega) (by omega) (by omega) hon.1 hfi ⟨v_C_fr a1 (fun c q1 q2 => g1 c (by omega)) rfl, by rw [ez]; exact a2, by rw [ez]; exact a3, by rw [ez]; exact a4, by rw [ez]; exact a5, by rw [ez]; exact a6, by rw [ez]; exact a7, fun q b q1 q2 q3 => ?_, fun c q1 q2 q3 q4 => (g1 c q4).trans (a9 c q1 q2 q3 q4), a10, a11⟩ (Or.inl rfl)
          · rw [← nI_1o] at ee
            exact ee
          · apply g2
            have hb0 : y_op s b := Or.inr q3
            have key : b < k ∧ k ≤ s 4 b := by
              have hek : (y_ek s R k = s 4 k + 1) ∨ y_ek s R k = k + 1 := by
                unfold y_ek
                split
                · exact Or.inl rfl
                · exact Or.inr rfl
              rcases hek with ez | ez
              · rw [ez] at q1 q2
                by_cases hbb : b = s 4 k
                · rw [hbb, e3]
                  omega
                · have hp := hS.2.2.1 b (by omega) hb0
                  have := hS.2.2.2.2 b (s 4 k) (by omega) (by omega) hp.2.1 hb0 e2
                  omega
              · rw [ez] at q1 q2
                have hbk : b ≠ k := fun q => by rw [q] at q3; omega
                omega
            exact a8 hk b key.1 key.2 q3
      · exact ih i F G x k R v1 ch st mi mo bo le (by
          rw [show y_mu s NL (k, R, v1, ch, st, mi, mo, bo, le) = 0 from if_neg hk]
          exact Nat.zero_le _) (by omega) (by omega) h4 h5 h6 h7
  have h16 : g 22 6 = lN (v 16 0 0) := hC.2.1
  obtain ⟨F, hF⟩ : ∃ F, F = x_up (x_up (x_up (x_up (x_up (x_up f 104 2 (nI seed)) 104 3 0) 104 4 0) 104 5 0) 104 6 0) 104 8 0 := ⟨_, rfl⟩
  have fn : ∀ c, c ≠ 104 → F c = f c := fun c hc => by rw [hF]; exact (x_un hc).trans ((x_un hc).trans ((x_un hc).trans ((x_un hc).trans ((x_un hc).trans (x_un hc)))))
  have ee := loop 50000 0 F g 0 0 (fun _ => 0) v seed 0 0 0 0 false (y_mu_0 hS) (Nat.le_refl _) (by decide) (y_in_0 hBn hs) hE.symm ⟨v_C_fr hC (fun c q1 q2 => fn c (by omega)) rfl, by rw [hF]; rfl, by rw [hF]; rfl, by rw [hF]; rfl, by rw [hF]; rfl, by rw [hF]; rfl, by rw [hF]; rfl, fun _ b hb => absurd hb (Nat.not_lt_zero _), fun c _ _ q3 _ => fn c q3, fun _ _ _ _ => rfl, rfl⟩ (Or.inl rfl)
  refine x_Ct_w (by decide) (Nat.le_of_ble_eq_true rfl) ok45 [42] 6 ?_
  refine And.intro (Or.inl rfl) ?_
  rw [hF, ← h16] at ee
  exact ee
end C60
