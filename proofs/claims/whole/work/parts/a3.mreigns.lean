/-! reigns() of the model -/
def x_frm (f F : Nat → Nat → Int32) : Prop := (∀ c, c ≠ 500 → c ≠ 501 → c ≠ 507 → c ≠ 508 → F c = f c) ∧ (∀ j, j < 10 ∧ j ≠ 2 ∨ 23 < j → F 500 j = f 500 j) ∧ ∀ j, j < 11 ∨ (11 < j ∧ j < 96) ∨ (456 ≤ j ∧ j < 1856) ∨ 2320 ≤ j → F 501 j = f 501 j
def x_QMr (r t : Nat) (v : xV) (N : Nat → Int64) (f : Nat → Nat → Int32) (g : Nat → Nat → Int64) (dm : List Nat) (n k : Nat) (x : Int32) (z : Option Value) (h' : xH) : Prop := match x_wi x 0 (nI (min k 300)) with
  | false => z = some (.int (-1)) ∧ h' = (x_up f 500 2 1, g, x_HR r t, dm, n)
  | true => match y_reigns (f 506) N (v 2 0 0) (v 0 0 0) (v 1 0 0) (x_c x) with
    | .inl e => z = some (.int (-1)) ∧ ∃ F, h' = (F, g, x_HR r t, dm, n) ∧ x_frm f F ∧ (F 500 2 = 9 ∧ F 500 10 = 0 ∧ F 500 16 = nI e.1 ∧ F 500 17 = nI e.2) ∧ ∀ j, j < 464 → F 501 j = f 501 j
    | .inr S => z = some (.int (nI S.2.2.1)) ∧ ∃ F, h' = (F, g, x_HR r t, dm, n) ∧ x_frm f F ∧ (F 500 2 = 0 ∧ F 500 10 = 0 ∧ F 500 16 = 0 ∧ F 500 17 = -1) ∧ x_SM (F 501) S.1 S.2.1
section Ca3
variable {f : Nat → Nat → Int32} {g : Nat → Nat → Int64} {r t : Nat} {dm : List Nat} {n d L w : Nat} {v : xV} {a : Nat → Int32} {m q : Nat} {N : Nat → Int64} {ρ : Nat → Nat → Option Nat} {S : xTr} {F : Nat → Nat → Int32}
theorem x_RTm_SM {A : Nat → Int32} (hS : x_RTm a m S q F) (h0 : S.2.2.2.1 = 0) (hNL : S.2.1 ≤ 60) (h11 : A 11 = F 501 1867) (hA : ∀ j, 96 ≤ j → j < 456 → A j = F 501 (1856 + j)) : x_SM A S.1 S.2.1 := by
  refine ⟨h11.trans hS.2.2.2.1, fun k hk => ?_⟩
  obtain ⟨l1, l2, l3, l4, l5⟩ := hS.2.2.2.2.2 k hk
  rw [hA (96 + 6 * k) (by omega) (by omega), hA (96 + 6 * k + 1) (by omega) (by omega), hA (96 + 6 * k + 2) (by omega) (by omega), hA (96 + 6 * k + 3) (by omega) (by omega), hA (96 + 6 * k + 4) (by omega) (by omega), hA (96 + 6 * k + 5) (by omega) (by omega)]
  rw [show 1856 + (96 + 6 * k) = 1952 + 6 * k by omega, show 1856 + (96 + 6 * k + 1) = 1952 + 6 * k + 1 by omega, show 1856 + (96 + 6 * k + 2) = 1952 + 6 * k + 2 by omega, show 1856 + (96 + 6 * k + 3) = 1952 + 6 * k + 3 by omega, show 1856 + (96 + 6 * k + 4) = 1952 + 6 * k + 4 by omega, show 1856 + (96 + 6 * k + 5) = 1952 + 6 * k + 5 by omega]
  exact ⟨l1, l2, l3, l4, fun h1 h2 => l5 h1 h2 (fun i hi => absurd hi (by omega))⟩
theorem m_reigns {k : Nat} {x : Int32} (hk : f 500 10 = nI k) (hk9 : k ≤ 900) (hb : ∀ j, j < k → y_byt (f 506 j)) (h0 : f 501 0 = nI (v 0 0 0)) (h1 : f 501 1 = nI (v 1 0 0)) (h2 : f 501 2 = nI (v 2 0 0)) (b0 : v 0 0 0 ≤ 4) (b1 : v 1 0 0 ≤ 5) (b2 : v 2 0 0 ≤ 5) (hN : y_NR (g 502) v N) : x_Ct 223 (d + 12) [.ref 500, .int x] (f, g, x_HR r t, dm, n) (x_QMr r t v N f g dm n k x) := by
  obtain ⟨Po, hPo⟩ : ∃ Po : Option Value → xH → Prop, Po = x_QMr r t v N f g dm n k x := ⟨_, rfl⟩
  rw [← hPo]
  refine x_Ct_w (by decide) (Nat.le_of_ble_eq_true rfl) ok223 [38] 6 ?_
  refine Exists.intro _ (And.intro (m_begins (mo := 300) hk hk9 (by decide) hb) (And.intro (And.intro (Nat.zero_le _) (Nat.zero_le _)) (fun zq h' hpo => ?_)))
  cases hw : x_wi x 0 (nI (min k 300)) with
  | false =>
    rw [hw] at hpo
    obtain ⟨rfl, rfl⟩ := hpo
    refine And.intro (fun c => absurd rfl c) (fun _ => ?_)
    refine Exists.intro _ (And.intro (m_refuse (w := 1)) (And.intro (And.intro (Nat.zero_le _) (Nat.zero_le _)) (fun q h' hpo => ?_)))
    obtain ⟨rfl, rfl⟩ := hpo
    refine And.intro ?_ ⟨trivial, Nat.le_refl _, Nat.le_refl _⟩
    rw [hPo]
    unfold x_QMr
    rw [hw]
    exact ⟨rfl, rfl⟩
  | true =>
    rw [hw] at hpo
    obtain ⟨rfl, F1, rfl, u1, u2, u3, u4, u5⟩ := hpo
    obtain ⟨j, -, hj, hxj⟩ := x_wi_t (lo := 0) (hi := min k 300) hw (by omega) (Nat.zero_le _)
    have hc : x_c x = j := by rw [hxj]; exact nI_clamp (by omega)
    rw [hc] at u4 u5
    obtain ⟨a, ha⟩ : ∃ a, a = F1 507 := ⟨_, rfl⟩
    rw [← ha] at u4 u5
    have hT : y_TP a j := ⟨by omega, fun i hi => by rw [u4 i hi]; exact hb i (by omega)⟩
    have hX : y_reigns (f 506) N (v 2 0 0) (v 0 0 0) (v 1 0 0) (x_c x) = y_rns a j N (v 2 0 0) (v 0 0 0) (v 1 0 0) j y_Tr0 (y_skip a j 0) := by
      rw [hc]
      exact (g_reigns (fun i hi => u4 i hi)).symm
    obtain ⟨X0, hX0⟩ : ∃ X0, X0 = y_rns a j N (v 2 0 0) (v 0 0 0) (v 1 0 0) j y_Tr0 (y_skip a j 0) := ⟨_, rfl⟩
    have hq := (y_skip_sp a (Nat.zero_le j)).2
    refine And.intro (fun _ => ?_) (fun c => absurd (show (1 : Int32) = 0 from c) (by decide))
    refine And.intro (by unfold x_ix; decide) ?_
    obtain ⟨F2, hF2⟩ : ∃ F2, F2 = x_up (x_up (x_up F1 501 1867 0) 500 22 0) 500 23 0 := ⟨_, rfl⟩
    show x_J 223 (d + 12) Po 38 [some (.ref 500), some (.int x), some (.int 1), none] [] (x_up (x_up (x_up F1 501 1867 0) 500 22 0) 500 23 0, g, x_HR r t, dm, n) 0 0
    rw [← hF2]
    have f2 : ∀ c, c ≠ 500 → c ≠ 501 → c ≠ 507 → F2 c = f c := fun c c1 c2 c3 => by rw [hF2, x_up_k c1, x_up_k c1, x_up_k c2]; exact u1 c c1 c3
    have e2 : F2 501 = va_up (f 501) 1867 0 := by rw [hF2, x_up_k (by decide), x_up_k (by decide), x_up_c, u1 501 (by decide) (by decide)]
    have f20 : ∀ i, i < 10 ∨ i = 16 ∨ (19 < i ∧ i ≠ 22 ∧ i ≠ 23) → F2 500 i = f 500 i := fun i hi => by rw [hF2, x_up_j (by omega), x_up_j (by omega), x_up_k (by decide)]; exact u2 i (by omega)
    have f210 : F2 500 10 = 0 := by rw [hF2]; exact u3
    have s2 : x_RTm a j y_Tr0 (y_skip a j 0) F2 := by
      refine ⟨⟨?_, ?_⟩, ?_, ?_, ?_, fun i hi => absurd hi (Nat.not_lt_zero _), fun i hi => absurd hi (Nat.not_lt_zero _)⟩
      · rw [hF2, x_up_k (by decide), x_up_k (by decide), x_up_k (by decide), ha]
      · rw [hF2]
        exact u5.2
      · rw [hF2]
        rfl
      · rw [hF2]
        rfl
      · rw [hF2]
        rfl
    have fr : ∀ F, x_fMr F2 F → x_frm f F ∧ F 500 10 = 0 ∧ ∀ i, i < 464 → F 501 i = f 501 i := by
      intro F h
      have e : ∀ i, i ≠ 1867 → i < 1952 ∨ 2312 ≤ i → F 501 i = f 501 i := fun i h1 h2 => by rw [h.2.2 i h1 h2, e2, x_un h1]
      refine ⟨⟨fun c c1 c2 c3 c4 => (h.1 c c1 c2 c4).trans (f2 c c1 c2 c3), fun i hi => (h.2.1 i (by omega)).trans (f20 i (by omega)), fun i hi => e i (by omega) (by omega)⟩, (h.2.1 10 (by decide)).trans f210, fun i hi => e i (by omega) (by omega)⟩
    have bad : ∀ F e x2 x3, X0 = .inl e → x_fMr F2 F → x_FM F e → x_J 223 (d + 12) Po 77 [some (.ref 500), some (.int x), x2, x3] [] (F, g, x_HR r t, dm, n) 0 0 := by
      intro F e x2 x3 hX1 hf he
      obtain ⟨r1, r2, r3⟩ := fr F hf
      have her := y_rns_er j y_Tr0 (y_skip a j 0) e (hX0.symm.trans hX1)
      refine x_wp_ok ok223 [102] 6 ?_
      refine And.intro (fun _ => ?_) (fun c => absurd (show F 500 18 = 0 from c) (by rw [he.1]; exact nI_ne0 her.1 (by have := her.2; omega)))
      refine Exists.intro _ (And.intro (m_taken (k := e.1) he.1 her.2) (And.intro (And.intro (Nat.zero_le _) (Nat.zero_le _)) (fun q h' hpo => ?_)))
      obtain ⟨rfl, rfl⟩ := hpo
      rw [if_pos (show 0 < e.1 from her.1), if_pos (show 0 < e.1 from her.1)]
      refine And.intro ?_ ⟨trivial, Nat.le_refl _, Nat.le_refl _⟩
      rw [hPo]
      unfold x_QMr
      rw [hw, hX, ← hX0, hX1]
      refine ⟨rfl, _, rfl, ⟨fun c c1 c2 c3 c4 => ?_, fun i hi => ?_, fun i hi => ?_⟩, ⟨rfl, r2, rfl, he.2⟩, fun i hi => ?_⟩
      · rw [x_up_k c1, x_up_k c1]
        exact r1.1 c c1 c2 c3 c4
      · rw [x_up_j (by omega), x_up_j (by omega)]
        exact r1.2.1 i hi
      · rw [x_up_k (by decide), x_up_k (by decide)]
        exact r1.2.2 i hi
      · rw [x_up_k (by decide), x_up_k (by decide)]
        exact r3 i hi
    have bad57 : ∀ F e x2 x3, X0 = .inl e → x_fMr F2 F → x_FM F e → x_J 223 (d + 12) Po 57 [some (.ref 500), some (.int x), x2, x3] [] (F, g, x_HR r t, dm, n) 0 0 := by
      intro F e x2 x3 hX1 hf he
      have her := y_rns_er j y_Tr0 (y_skip a j 0) e (hX0.symm.trans hX1)
      refine x_wp_ok ok223 [77] 6 ?_
      refine And.intro (fun _ => bad F e x2 x3 hX1 hf he) (fun c => absurd (show F 500 18 = 0 from c) (by rw [he.1]; exact nI_ne0 her.1 (by have := her.2; omega)))
    have good : ∀ F (S : xTr) (q : Nat) (bb : Int32), X0 = (if 0 < S.2.2.2.1 then .inl (y_fl a j q 2) else .inr S) → y_RI (v 2 0 0) (v 0 0 0) (v 1 0 0) S → x_RTm a j S q F → x_fMr F2 F → x_J 223 (d + 12) Po 57 [some (.ref 500), some (.int x), some (.int bb), none] [] (F, g, x_HR r t, dm, n) 0 0 := by
      intro F S q bb hX1 hI hS hf
      have s22 : F 500 22 = nI S.2.2.2.1 := hS.2.1
      have hi1 := hI.1
      have hi2 := hI.2.1
      have hi3 := hI.2.2.1
      refine x_wp_ok ok223 [77] 6 ?_
      refine And.intro (fun c => absurd (show F 500 18 = 0 from hS.1.2.2.1) c) (fun _ => ?_)
      by_cases hd : 0 < S.2.2.2.1
      · rw [if_pos hd] at hX1
        refine And.intro (fun c => absurd (show F 500 22 ≤ 0 from c) (by rw [s22]; exact nI_nle hd (by omega))) (fun _ => ?_)
        refine Exists.intro _ (And.intro (m_fails (k := 2) hS.1) (And.intro (And.intro (Nat.zero_le _) (Nat.zero_le _)) (fun zq h' hpo => ?_)))
        obtain ⟨rfl, F3, rfl, w1, w2⟩ := hpo
        exact bad F3 _ _ _ hX1 (x_fMr_t hf (x_fMr_5 w1)) w2
      · rw [if_neg hd] at hX1
        have hd0 : S.2.2.2.1 = 0 := by omega
        refine And.intro (fun _ => ?_) (fun c => absurd (show F 500 22 ≤ 0 by rw [s22, hd0]; decide) c)
        obtain ⟨r1, r2, r3⟩ := fr F hf
        have lp : ∀ u c (A : Nat → Int32), c + u = 456 → 96 ≤ c → A 11 = F 501 1867 → (∀ i, 96 ≤ i → i < c → A i = F 501 (1856 + i)) → (∀ i, i ≠ 11 → i < 96 ∨ c ≤ i → A i = F 501 i) → x_J 223 (d + 12) Po 102 [some (.ref 500), some (.int x), some (.int bb), some (.int (nI c))] [] (va_up F 501 A, g, x_HR r t, dm, n) 0 0 := by
          intro u
          induction u with
          | zero =>
            intro c A hcu h96 hA0 hA1 hA2
            obtain rfl : c = 456 := by omega
            have e18 : va_up F 501 A 500 18 = nI 0 := by rw [x_un (by decide)]; exact hS.1.2.2.1
            have e23 : va_up F 501 A 500 23 = nI S.2.2.1 := by rw [x_un (by decide)]; exact hS.2.2.1
            refine x_wp_ok ok223 [102] 6 ?_
            refine And.intro (fun _ => ?_) (fun c => absurd (by decide) c)
            show ∃ P, x_Ct 209 (d + 11) [.ref 500, .int (va_up F 501 A 500 23)] (va_up F 501 A, g, x_HR r t, dm, n) P ∧ _
            rw [e23]
            refine Exists.intro _ (And.intro (m_taken (k := 0) e18 (by decide)) (And.intro (And.intro (Nat.zero_le _) (Nat.zero_le _)) (fun q h' hpo => ?_)))
            obtain ⟨rfl, rfl⟩ := hpo
            rw [if_neg (Nat.lt_irrefl 0), if_neg (Nat.lt_irrefl 0)]
            refine And.intro ?_ ⟨trivial, Nat.le_refl _, Nat.le_refl _⟩
            rw [hPo]
            unfold x_QMr
            rw [hw, hX, ← hX0, hX1]
            have e501 : (x_up (x_up (va_up F 501 A) 500 16 (nI 0)) 500 2 0) 501 = A := by rw [x_up_k (by decide), x_up_k (by decide), x_us]
            refine ⟨rfl, _, rfl, ⟨fun c c1 c2 c3 c4 => ?_, fun i hi => ?_, fun i hi => ?_⟩, ⟨rfl, ?_, rfl, ?_⟩, ?_⟩
            · rw [x_up_k c1, x_up_k c1, x_un c2]
              exact r1.1 c c1 c2 c3 c4
            · rw [x_up_j (by omega), x_up_j (by omega), x_un (by decide)]
              exact r1.2.1 i hi
            · rw [e501, hA2 i (by omega) (by omega)]
              exact r1.2.2 i hi
            · rw [x_up_j (by decide), x_up_j (by decide), x_un (by decide)]
              exact r2
            · rw [x_up_j (by decide), x_up_j (by decide), x_un (by decide)]
              exact hS.1.2.2.2
            · rw [e501]
              exact x_RTm_SM hS hd0 (by omega) hA0 (fun i h1 h2 => hA1 i h1 h2)
          | succ u ih =>
            intro c A hcu h96 hA0 hA1 hA2
            refine x_wp_ok ok223 [102] 6 ?_
            refine And.intro (fun w => absurd (show nI 456 ≤ nI c from w) (nI_ge (by omega) (by decide))) (fun _ => ?_)
            have ix : (Int16.ofInt 1856).toInt32 + nI c = nI (1856 + c) := nI_add 1856 c
            refine And.intro (by show x_ix ((Int16.ofInt 1856).toInt32 + nI c) 3168; rw [ix]; exact x_ix_nI (by omega) (by omega)) ?_
            refine And.intro (x_ix_nI (by omega) (by omega)) ?_
            have e0 := ih (c + 1) (va_up A c (A (1856 + c))) (by omega) (by omega) (by rw [x_un (by omega)]; exact hA0) (fun i h1 h2 => by
              by_cases e : i = c
              · rw [e, x_us]
                exact hA2 _ (by omega) (by omega)
              · rw [x_un e]
                exact hA1 i h1 (by omega)) (fun i h1 h2 => by
              rw [x_un (by omega)]
              exact hA2 i h1 (by omega))
            have ec : (nI c).toNatClampNeg = c := nI_clamp (by omega)
            have ec2 : ((Int16.ofInt 1856).toInt32 + nI c).toNatClampNeg = 1856 + c := by rw [ix]; exact nI_clamp (by omega)
            have eu : x_up (va_up F 501 A) 501 c (va_up F 501 A 501 (1856 + c)) = va_up F 501 (va_up A c (A (1856 + c))) := by
              unfold x_up
              rw [x_us, x_up2]
            rw [← nI_1o, ← eu] at e0
            show x_J 223 (d + 12) Po 102 _ _ (x_up (va_up F 501 A) 501 (nI c).toNatClampNeg (va_up F 501 A 501 ((Int16.ofInt 1856).toInt32 + nI c).toNatClampNeg), g, x_HR r t, dm, n) 0 0
            rw [ec, ec2]
            exact e0
        refine x_wp_ok ok223 [102] 6 ?_
        refine And.intro (fun c => absurd (show F 500 18 = 0 from hS.1.2.2.1) c) (fun _ => ?_)
        refine And.intro (by unfold x_ix; decide) ?_
        refine And.intro (by unfold x_ix; decide) ?_
        have e0 := lp 360 96 (va_up (F 501) 11 (F 501 1867)) rfl (Nat.le_refl _) x_us (fun i h1 h2 => absurd h1 (by omega)) (fun i h1 _ => x_un h1)
        exact e0
    have loop : ∀ u (S : xTr) q F, y_RI (v 2 0 0) (v 0 0 0) (v 1 0 0) S → x_RTm a j S q F → q ≤ j → j - q ≤ u → x_fMr F2 F → y_rns a j N (v 2 0 0) (v 0 0 0) (v 1 0 0) u S q = X0 → x_J 223 (d + 12) Po 38 [some (.ref 500), some (.int x), some (.int 1), none] [] (F, g, x_HR r t, dm, n) 0 0 := by
      intro u
      induction u with
      | zero =>
        intro S q F hI hS hq hu hf hX1
        have h3 : y_sa a j q = 3 := if_neg (by omega)
        rw [y_rns_3 h3] at hX1
        refine x_wp_ok ok223 [38, 57] 6 ?_
        refine And.intro (fun c => absurd (show (1 : Int32) = 0 from c) (by decide)) (fun _ => ?_)
        refine And.intro (fun _ => good F S q _ hX1.symm hI hS hf) (fun c => absurd (show F 500 12 = 0 by rw [hS.1.2.1.2.2.1, y_mk_0, y_tk_3]; exact h3) c)
      | succ u ih =>
        intro S q F hI hS hq hu hf hX1
        by_cases h3 : y_sa a j q = 3
        · rw [y_rns_3 h3] at hX1
          refine x_wp_ok ok223 [38, 57] 6 ?_
          refine And.intro (fun c => absurd (show (1 : Int32) = 0 from c) (by decide)) (fun _ => ?_)
          refine And.intro (fun _ => good F S q _ hX1.symm hI hS hf) (fun c => absurd (show F 500 12 = 0 by rw [hS.1.2.1.2.2.1, y_mk_0, y_tk_3]; exact h3) c)
        · rw [y_rns_S h3] at hX1
          refine x_wp_ok ok223 [38, 57] 6 ?_
          refine And.intro (fun c => absurd (show (1 : Int32) = 0 from c) (by decide)) (fun _ => ?_)
          refine And.intro (fun c => absurd (show F 500 12 = 0 from c) (by rw [hS.1.2.1.2.2.1, y_mk_0, y_tk_3]; exact h3)) (fun _ => ?_)
          obtain ⟨-, -, r3⟩ := fr F hf
          refine Exists.intro _ (And.intro (m_reignStep (v := v) (N := N) hT hI hS (by rw [r3 0 (by decide)]; exact h0) (by rw [r3 1 (by decide)]; exact h1) (by rw [r3 2 (by decide)]; exact h2) b0 b1 b2 hN) (And.intro (And.intro (Nat.zero_le _) (Nat.zero_le _)) (fun zq h' hpo => ?_)))
          cases hY : y_rst a j N (v 2 0 0) (v 0 0 0) (v 1 0 0) S q with
          | inl e =>
            rw [hY] at hpo hX1
            obtain ⟨rfl, F3, rfl, w1, w2⟩ := hpo
            refine x_wp_ok ok223 [57] 6 ?_
            refine And.intro (fun _ => ?_) (fun c => absurd rfl c)
            exact bad57 F3 e _ _ hX1.symm (x_fMr_t hf w1) w2
          | inr w =>
            have k1 := y_rst_ok hI hY
            rw [hY] at hpo hX1
            obtain ⟨rfl, F3, rfl, w1, w2⟩ := hpo
            exact ih w.1 w.2 F3 k1.1 w2 k1.2.2 (by omega) (x_fMr_t hf w1) hX1
    exact loop j y_Tr0 (y_skip a j 0) F2 (y_RI_0 _ _ _) s2 hq (Nat.sub_le _ _) x_fMr_r hX0.symm
end Ca3
