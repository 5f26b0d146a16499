/-! the model reads an order -/
section Ca1
variable {f : Nat → Nat → Int32} {g : Nat → Nat → Int64} {r t rr : Nat} {dm : List Nat} {n d L w : Nat} {v : xV} {a : Nat → Int32} {m q : Nat} {N : Nat → Int64} {ρ : Nat → Nat → Option Nat} {X : xF (xN5 × Nat)} {z : Option Value} {h' : xH} {e : Nat × Nat} {F : Nat → Nat → Int32}
theorem m_order20 : x_V 221 (d + 10) [.ref 500, .int (nI 20), .int (nI rr)] (f, g, x_HR r t, dm, n) (.int 1) (f, g, x_HR r t, dm, n) := by
  refine x_Ct_w (by decide) (Nat.le_of_ble_eq_true rfl) ok221 [] 6 ?_
  have ww : (nI 20).toInt = 20 := rfl
  refine And.intro (And.intro (fun c => absurd (ww.symm.trans c) (by decide)) (And.intro (fun c => absurd (ww.symm.trans c) (by decide)) (And.intro (fun c => absurd (ww.symm.trans c) (by decide)) (And.intro (fun c => absurd (ww.symm.trans c) (by decide)) (And.intro (fun c => absurd (ww.symm.trans c) (by decide)) (And.intro (fun c => absurd (ww.symm.trans c) (by decide)) (And.intro (fun c => absurd (ww.symm.trans c) (by decide)) (And.intro (fun c => absurd (ww.symm.trans c) (by decide)) (And.intro (fun c => absurd (ww.symm.trans c) (by decide)) trivial))))))))) (fun _ => ?_)
  exact And.intro ⟨rfl, rfl⟩ ⟨Or.inr rfl, Nat.le_refl _, Nat.le_refl _⟩
theorem m_reignOrder (hw1 : 11 ≤ w) (hw2 : w ≤ 21) (hw3 : w ≠ 20) (hr0 : 2 < rr) (hrr : rr + 5 < 3168) (hT : y_TP a m) (hR : x_RMt a m q f) (hrw : f 501 rr = nI w) (h0 : f 501 0 = nI (v 0 0 0)) (h1 : f 501 1 = nI (v 1 0 0)) (h2 : f 501 2 = nI (v 2 0 0)) (b0 : v 0 0 0 ≤ 4) (b1 : v 1 0 0 ≤ 5) (b2 : v 2 0 0 ≤ 5) (hN : y_NR (g 502) v N) : x_Ct 221 (d + 10) [.ref 500, .int (nI w), .int (nI rr)] (f, g, x_HR r t, dm, n) (x_PO6 rr a m f g (x_HR r t) dm n (y_ordr a m N (v 2 0 0) (v 0 0 0) (v 1 0 0) w q)) := by
  obtain ⟨Po, hPo⟩ : ∃ Po : Option Value → xH → Prop, Po = x_PO6 rr a m f g (x_HR r t) dm n (y_ordr a m N (v 2 0 0) (v 0 0 0) (v 1 0 0) w q) := ⟨_, rfl⟩
  rw [← hPo]
  have i1 : nI rr + Int32.ofInt 1 = nI (rr + 1) := nI_add rr 1
  have i2 : nI rr + Int32.ofInt 2 = nI (rr + 2) := nI_add rr 2
  have i3 : nI rr + Int32.ofInt 3 = nI (rr + 3) := nI_add rr 3
  have hww : w = 11 ∨ w = 12 ∨ w = 13 ∨ w = 14 ∨ w = 15 ∨ w = 16 ∨ w = 17 ∨ w = 18 ∨ w = 19 ∨ w = 21 := by omega
  rcases hww with rfl | rfl | rfl | rfl | rfl | rfl | rfl | rfl | rfl | rfl
  · have ww : (nI 11).toInt = 11 := rfl
    have no : ∀ F e, y_deed a m N (v 2 0 0) (v 0 0 0) 0 11 q = .inl e → x_fO rr f F → x_FM F e → x_J 221 (d + 10) Po 96 [some (.ref 500), some (.int (nI 11)), some (.int (nI rr))] [] (F, g, x_HR r t, dm, n) 0 0 := by
      intro F e hX hf he
      refine x_wp_ok ok221 [] 6 ?_
      refine And.intro ?_ ⟨Or.inl rfl, Nat.le_refl _, Nat.le_refl _⟩
      rw [hPo]
      exact x_PO6_L ((y_ordr_K (Or.inl rfl)).trans hX) hf he
    refine x_Ct_w (by decide) (Nat.le_of_ble_eq_true rfl) ok221 [96] 6 ?_
    refine And.intro (And.intro (fun _ => ?_) (And.intro (fun c => absurd (ww.symm.trans c) (by decide)) (And.intro (fun c => absurd (ww.symm.trans c) (by decide)) (And.intro (fun c => absurd (ww.symm.trans c) (by decide)) (And.intro (fun c => absurd (ww.symm.trans c) (by decide)) (And.intro (fun c => absurd (ww.symm.trans c) (by decide)) (And.intro (fun c => absurd (ww.symm.trans c) (by decide)) (And.intro (fun c => absurd (ww.symm.trans c) (by decide)) (And.intro (fun c => absurd (ww.symm.trans c) (by decide)) trivial))))))))) (fun c => absurd c (by rw [ww]; decide))
    show ∃ P, x_Ct 219 (d + 9) [.ref 500, .int (nI rr + Int32.ofInt 1)] (f, g, x_HR r t, dm, n) P ∧ _
    rw [i1]
    refine Exists.intro _ (And.intro (m_personTo (to := rr + 1) (v := v) (N := N) (by omega) hT hR h2 b2 hN) (And.intro (And.intro (Nat.zero_le _) (Nat.zero_le _)) (fun zq h' hpo => ?_)))
    cases e1 : y_old a m N 9 (v 2 0 0) q with
    | inl e =>
      rw [e1] at hpo
      obtain ⟨rfl, F1, rfl, u1, u2⟩ := hpo
      refine And.intro (fun _ => ?_) (fun c => absurd rfl c)
      refine no F1 e ?_ (x_fO_q (by omega) u1) u2
      unfold y_deed
      rw [e1]
      rfl
    | inr p =>
      rw [e1] at hpo
      obtain ⟨rfl, F1, rfl, u2, u1⟩ := hpo
      have c1 : F1 501 = va_up (f 501) (rr + 1) (nI p.1) := by rw [u1.1 501 (by decide), x_up_c]
      have f1 : x_fO rr f F1 := x_fO_t (x_fO_up (i := rr + 1) (x := nI p.1) (by omega)) (x_fO_5 u1)
      have e0 : F1 501 0 = nI (v 0 0 0) := by rw [c1, x_un (by omega)]; exact h0
      refine And.intro (fun c => absurd (show (1 : Int32) = 0 from c) (by decide)) (fun _ => ?_)
      refine And.intro (by unfold x_ix; decide) ?_
      show ∃ P, x_Ct 212 (d + 9) [.ref 500, .int (nI 0), .int (F1 501 0), .int (nI rr + Int32.ofInt 2)] (F1, g, x_HR r t, dm, n) P ∧ _
      rw [i2, e0]
      refine Exists.intro _ (And.intro (m_oldQ (to := rr + 2) (b := 0) (b' := 0) (N := N) (by omega) (by omega) (by omega) hT u2 (y_NR_0 hN _)) (And.intro (And.intro (Nat.zero_le _) (Nat.zero_le _)) (fun zq h' hpo => ?_)))
      cases e2 : y_old a m N 0 (v 0 0 0) p.2 with
      | inl e =>
        rw [e2] at hpo
        obtain ⟨rfl, F2, rfl, w1, w2⟩ := hpo
        refine And.intro (fun _ => ?_) (fun c => absurd rfl c)
        refine no F2 e ?_ (x_fO_t f1 (x_fO_q (by omega) w1)) w2
        unfold y_deed
        rw [e1]
        show y_bd (y_old a m N 0 (v 0 0 0) p.2) _ = _
        rw [e2]
        rfl
      | inr i =>
        rw [e2] at hpo
        obtain ⟨rfl, F2, rfl, w2, w1⟩ := hpo
        have c2 : F2 501 = va_up (va_up (f 501) (rr + 1) (nI p.1)) (rr + 2) (nI i.1) := by rw [w1.1 501 (by decide), x_up_c, c1]
        have f2 : x_fO rr f F2 := x_fO_t f1 (x_fO_t (x_fO_up (i := rr + 2) (x := nI i.1) (by omega)) (x_fO_5 w1))
        refine And.intro (fun c => absurd (show (1 : Int32) = 0 from c) (by decide)) (fun _ => ?_)
        show ∃ P, x_Ct 204 (d + 9) [.ref 500, .int (nI rr + Int32.ofInt 3), .int (nI 1), .int (nI 99)] (F2, g, x_HR r t, dm, n) P ∧ _
        rw [i3]
        refine Exists.intro _ (And.intro (m_number (to := rr + 3) (lo := 1) (hi := 99) (by omega) (by decide) (by decide) hT w2) (And.intro (And.intro (Nat.zero_le _) (Nat.zero_le _)) (fun zq h' hpo => ?_)))
        cases e3 : y_nbr a m 1 99 i.2 with
        | inl e =>
          obtain ⟨rfl, F3, rfl, p1, p2⟩ := x_PUm_l e3 hpo
          refine And.intro (fun _ => ?_) (fun c => absurd rfl c)
          refine no F3 e ?_ (x_fO_t f2 (x_fO_5 p1)) p2
          unfold y_deed
          rw [e1]
          show y_bd (y_old a m N 0 (v 0 0 0) p.2) _ = _
          rw [e2]
          show y_bd (y_nbr a m 1 99 i.2) _ = _
          rw [e3]
          rfl
        | inr x =>
          obtain ⟨rfl, F3, rfl, p2, p1⟩ := x_PUm_r e3 hpo
          have c3 : F3 501 = va_up (va_up (va_up (f 501) (rr + 1) (nI p.1)) (rr + 2) (nI i.1)) (rr + 3) (nI x.1) := by rw [p1.1 501 (by decide), x_up_c, c2]
          refine And.intro (fun c => absurd (show (1 : Int32) = 0 from c) (by decide)) (fun _ => ?_)
          refine And.intro ?_ ⟨Or.inr rfl, Nat.le_refl _, Nat.le_refl _⟩
          rw [hPo]
          refine x_PO6_R (w := ((11, p.1, i.1, x.1, 0), x.2)) ((y_ordr_K (Or.inl rfl)).trans ?_) (x_fO_t f2 (x_fO_t (x_fO_up (i := rr + 3) (x := nI x.1) (by omega)) (x_fO_5 p1))) p2 ⟨?_, fun _ => ⟨?_, ?_, ?_⟩, fun h => absurd (show (11 : Nat) = 16 ∨ (11 : Nat) = 22 from h) (by decide), fun h => absurd (show 18 ≤ (11 : Nat) ∧ (11 : Nat) ≤ 20 from h) (by decide)⟩
          · unfold y_deed
            rw [e1]
            show y_bd (y_old a m N 0 (v 0 0 0) p.2) _ = _
            rw [e2]
            show y_bd (y_nbr a m 1 99 i.2) _ = _
            rw [e3]
            rfl
          · rw [c3, x_un (by omega), x_un (by omega), x_un (by omega)]
            exact hrw
          · rw [c3, x_un (by omega), x_un (by omega), x_us]
          · rw [c3, x_un (by omega), x_us]
          · rw [c3, x_us]
  · have ww : (nI 12).toInt = 12 := rfl
    have no : ∀ F e, y_deed a m N (v 2 0 0) (v 1 0 0) 4 12 q = .inl e → x_fO rr f F → x_FM F e → x_J 221 (d + 10) Po 142 [some (.ref 500), some (.int (nI 12)), some (.int (nI rr))] [] (F, g, x_HR r t, dm, n) 0 0 := by
      intro F e hX hf he
      refine x_wp_ok ok221 [] 6 ?_
      refine And.intro ?_ ⟨Or.inl rfl, Nat.le_refl _, Nat.le_refl _⟩
      rw [hPo]
      exact x_PO6_L ((y_ordr_G (Or.inl rfl)).trans hX) hf he
    refine x_Ct_w (by decide) (Nat.le_of_ble_eq_true rfl) ok221 [142] 6 ?_
    refine And.intro (And.intro (fun c => absurd (ww.symm.trans c) (by decide)) (And.intro (fun _ => ?_) (And.intro (fun c => absurd (ww.symm.trans c) (by decide)) (And.intro (fun c => absurd (ww.symm.trans c) (by decide)) (And.intro (fun c => absurd (ww.symm.trans c) (by decide)) (And.intro (fun c => absurd (ww.symm.trans c) (by decide)) (And.intro (fun c => absurd (ww.symm.trans c) (by decide)) (And.intro (fun c => absurd (ww.symm.trans c) (by decide)) (And.intro (fun c => absurd (ww.symm.trans c) (by decide)) trivial))))))))) (fun c => absurd c (by rw [ww]; decide))
    show ∃ P, x_Ct 219 (d + 9) [.ref 500, .int (nI rr + Int32.ofInt 1)] (f, g, x_HR r t, dm, n) P ∧ _
    rw [i1]
    refine Exists.intro _ (And.intro (m_personTo (to := rr + 1) (v := v) (N := N) (by omega) hT hR h2 b2 hN) (And.intro (And.intro (Nat.zero_le _) (Nat.zero_le _)) (fun zq h' hpo => ?_)))
    cases e1 : y_old a m N 9 (v 2 0 0) q with
    | inl e =>
      rw [e1] at hpo
      obtain ⟨rfl, F1, rfl, u1, u2⟩ := hpo
      refine And.intro (fun _ => ?_) (fun c => absurd rfl c)
      refine no F1 e ?_ (x_fO_q (by omega) u1) u2
      unfold y_deed
      rw [e1]
      rfl
    | inr p =>
      rw [e1] at hpo
      obtain ⟨rfl, F1, rfl, u2, u1⟩ := hpo
      have c1 : F1 501 = va_up (f 501) (rr + 1) (nI p.1) := by rw [u1.1 501 (by decide), x_up_c]
      have f1 : x_fO rr f F1 := x_fO_t (x_fO_up (i := rr + 1) (x := nI p.1) (by omega)) (x_fO_5 u1)
      have e0 : F1 501 1 = nI (v 1 0 0) := by rw [c1, x_un (by omega)]; exact h1
      refine And.intro (fun c => absurd (show (1 : Int32) = 0 from c) (by decide)) (fun _ => ?_)
      refine And.intro (by unfold x_ix; decide) ?_
      show ∃ P, x_Ct 212 (d + 9) [.ref 500, .int (nI 4), .int (F1 501 1), .int (nI rr + Int32.ofInt 2)] (F1, g, x_HR r t, dm, n) P ∧ _
      rw [i2, e0]
      refine Exists.intro _ (And.intro (m_oldQ (to := rr + 2) (b := 4) (b' := 4) (N := N) (by omega) (by omega) (by omega) hT u2 (y_NR_4 hN _)) (And.intro (And.intro (Nat.zero_le _) (Nat.zero_le _)) (fun zq h' hpo => ?_)))
      cases e2 : y_old a m N 4 (v 1 0 0) p.2 with
      | inl e =>
        rw [e2] at hpo
        obtain ⟨rfl, F2, rfl, w1, w2⟩ := hpo
        refine And.intro (fun _ => ?_) (fun c => absurd rfl c)
        refine no F2 e ?_ (x_fO_t f1 (x_fO_q (by omega) w1)) w2
        unfold y_deed
        rw [e1]
        show y_bd (y_old a m N 4 (v 1 0 0) p.2) _ = _
        rw [e2]
        rfl
      | inr i =>
        rw [e2] at hpo
        obtain ⟨rfl, F2, rfl, w2, w1⟩ := hpo
        have c2 : F2 501 = va_up (va_up (f 501) (rr + 1) (nI p.1)) (rr + 2) (nI i.1) := by rw [w1.1 501 (by decide), x_up_c, c1]
        have f2 : x_fO rr f F2 := x_fO_t f1 (x_fO_t (x_fO_up (i := rr + 2) (x := nI i.1) (by omega)) (x_fO_5 w1))
        refine And.intro (fun c => absurd (show (1 : Int32) = 0 from c) (by decide)) (fun _ => ?_)
        show ∃ P, x_Ct 204 (d + 9) [.ref 500, .int (nI rr + Int32.ofInt 3), .int (nI 1), .int (nI 99)] (F2, g, x_HR r t, dm, n) P ∧ _
        rw [i3]
        refine Exists.intro _ (And.intro (m_number (to := rr + 3) (lo := 1) (hi := 99) (by omega) (by decide) (by decide) hT w2) (And.intro (And.intro (Nat.zero_le _) (Nat.zero_le _)) (fun zq h' hpo => ?_)))
        cases e3 : y_nbr a m 1 99 i.2 with
        | inl e =>
          obtain ⟨rfl, F3, rfl, p1, p2⟩ := x_PUm_l e3 hpo
          refine And.intro (fun _ => ?_) (fun c => absurd rfl c)
          refine no F3 e ?_ (x_fO_t f2 (x_fO_5 p1)) p2
          unfold y_deed
          rw [e1]
          show y_bd (y_old a m N 4 (v 1 0 0) p.2) _ = _
          rw [e2]
          show y_bd (y_nbr a m 1 99 i.2) _ = _
          rw [e3]
          rfl
        | inr x =>
          obtain ⟨rfl, F3, rfl, p2, p1⟩ := x_PUm_r e3 hpo
          have c3 : F3 501 = va_up (va_up (va_up (f 501) (rr + 1) (nI p.1)) (rr + 2) (nI i.1)) (rr + 3) (nI x.1) := by rw [p1.1 501 (by decide), x_up_c, c2]
          refine And.intro (fun c => absurd (show (1 : Int32) = 0 from c) (by decide)) (fun _ => ?_)
          refine And.intro ?_ ⟨Or.inr rfl, Nat.le_refl _, Nat.le_refl _⟩
          rw [hPo]
          refine x_PO6_R (w := ((12, p.1, i.1, x.1, 0), x.2)) ((y_ordr_G (Or.inl rfl)).trans ?_) (x_fO_t f2 (x_fO_t (x_fO_up (i := rr + 3) (x := nI x.1) (by omega)) (x_fO_5 p1))) p2 ⟨?_, fun _ => ⟨?_, ?_, ?_⟩, fun h => absurd (show (12 : Nat) = 16 ∨ (12 : Nat) = 22 from h) (by decide), fun h => absurd (show 18 ≤ (12 : Nat) ∧ (12 : Nat) ≤ 20 from h) (by decide)⟩
          · unfold y_deed
            rw [e1]
            show y_bd (y_old a m N 4 (v 1 0 0) p.2) _ = _
            rw [e2]
            show y_bd (y_nbr a m 1 99 i.2) _ = _
            rw [e3]
            rfl
          · rw [c3, x_un (by omega), x_un (by omega), x_un (by omega)]
            exact hrw
          · rw [c3, x_un (by omega), x_un (by omega), x_us]
          · rw [c3, x_un (by omega), x_us]
          · rw [c3, x_us]
  · have ww : (nI 13).toInt = 13 := rfl
    have no : ∀ F e, y_deed a m N (v 2 0 0) (v 1 0 0) 4 13 q = .inl e → x_fO rr f F → x_FM F e → x_J 221 (d + 10) Po 142 [some (.ref 500), some (.int (nI 13)), some (.int (nI rr))] [] (F, g, x_HR r t, dm, n) 0 0 := by
      intro F e hX hf he
      refine x_wp_ok ok221 [] 6 ?_
      refine And.intro ?_ ⟨Or.inl rfl, Nat.le_refl _, Nat.le_refl _⟩
      rw [hPo]
      exact x_PO6_L ((y_ordr_G (Or.inr rfl)).trans hX) hf he
    refine x_Ct_w (by decide) (Nat.le_of_ble_eq_true rfl) ok221 [142] 6 ?_
    refine And.intro (And.intro (fun c => absurd (ww.symm.trans c) (by decide)) (And.intro (fun c => absurd (ww.symm.trans c) (by decide)) (And.intro (fun _ => ?_) (And.intro (fun c => absurd (ww.symm.trans c) (by decide)) (And.intro (fun c => absurd (ww.symm.trans c) (by decide)) (And.intro (fun c => absurd (ww.symm.trans c) (by decide)) (And.intro (fun c => absurd (ww.symm.trans c) (by decide)) (And.intro (fun c => absurd (ww.symm.trans c) (by decide)) (And.intro (fun c => absurd (ww.symm.trans c) (by decide)) trivial))))))))) (fun c => absurd c (by rw [ww]; decide))
    show ∃ P, x_Ct 219 (d + 9) [.ref 500, .int (nI rr + Int32.ofInt 1)] (f, g, x_HR r t, dm, n) P ∧ _
    rw [i1]
    refine Exists.intro _ (And.intro (m_personTo (to := rr + 1) (v := v) (N := N) (by omega) hT hR h2 b2 hN) (And.intro (And.intro (Nat.zero_le _) (Nat.zero_le _)) (fun zq h' hpo => ?_)))
    cases e1 : y_old a m N 9 (v 2 0 0) q with
    | inl e =>
      rw [e1] at hpo
      obtain ⟨rfl, F1, rfl, u1, u2⟩ := hpo
      refine And.intro (fun _ => ?_) (fun c => absurd rfl c)
      refine no F1 e ?_ (x_fO_q (by omega) u1) u2
      unfold y_deed
      rw [e1]
      rfl
    | inr p =>
      rw [e1] at hpo
      obtain ⟨rfl, F1, rfl, u2, u1⟩ := hpo
      have c1 : F1 501 = va_up (f 501) (rr + 1) (nI p.1) := by rw [u1.1 501 (by decide), x_up_c]
      have f1 : x_fO rr f F1 := x_fO_t (x_fO_up (i := rr + 1) (x := nI p.1) (by omega)) (x_fO_5 u1)
      have e0 : F1 501 1 = nI (v 1 0 0) := by rw [c1, x_un (by omega)]; exact h1
      refine And.intro (fun c => absurd (show (1 : Int32) = 0 from c) (by decide)) (fun _ => ?_)
      refine And.intro (by unfold x_ix; decide) ?_
      show ∃ P, x_Ct 212 (d + 9) [.ref 500, .int (nI 4), .int (F1 501 1), .int (nI rr + Int32.ofInt 2)] (F1, g, x_HR r t, dm, n) P ∧ _
      rw [i2, e0]
      refine Exists.intro _ (And.intro (m_oldQ (to := rr + 2) (b := 4) (b' := 4) (N := N) (by omega) (by omega) (by omega) hT u2 (y_NR_4 hN _)) (And.intro (And.intro (Nat.zero_le _) (Nat.zero_le _)) (fun zq h' hpo => ?_)))
      cases e2 : y_old a m N 4 (v 1 0 0) p.2 with
      | inl e =>
        rw [e2] at hpo
        obtain ⟨rfl, F2, rfl, w1, w2⟩ := hpo
        refine And.intro (fun _ => ?_) (fun c => absurd rfl c)
        refine no F2 e ?_ (x_fO_t f1 (x_fO_q (by omega) w1)) w2
        unfold y_deed
        rw [e1]
        show y_bd (y_old a m N 4 (v 1 0 0) p.2) _ = _
        rw [e2]
        rfl
      | inr i =>
        rw [e2] at hpo
        obtain ⟨rfl, F2, rfl, w2, w1⟩ := hpo
        have c2 : F2 501 = va_up (va_up (f 501) (rr + 1) (nI p.1)) (rr + 2) (nI i.1) := by rw [w1.1 501 (by decide), x_up_c, c1]
        have f2 : x_fO rr f F2 := x_fO_t f1 (x_fO_t (x_fO_up (i := rr + 2) (x := nI i.1) (by omega)) (x_fO_5 w1))
        refine And.intro (fun c => absurd (show (1 : Int32) = 0 from c) (by decide)) (fun _ => ?_)
        show ∃ P, x_Ct 204 (d + 9) [.ref 500, .int (nI rr + Int32.ofInt 3), .int (nI 1), .int (nI 99)] (F2, g, x_HR r t, dm, n) P ∧ _
        rw [i3]
        refine Exists.intro _ (And.intro (m_number (to := rr + 3) (lo := 1) (hi := 99) (by omega) (by decide) (by decide) hT w2) (And.intro (And.intro (Nat.zero_le _) (Nat.zero_le _)) (fun zq h' hpo => ?_)))
        cases e3 : y_nbr a m 1 99 i.2 with
        | inl e =>
          obtain ⟨rfl, F3, rfl, p1, p2⟩ := x_PUm_l e3 hpo
          refine And.intro (fun _ => ?_) (fun c => absurd rfl c)
          refine no F3 e ?_ (x_fO_t f2 (x_fO_5 p1)) p2
          unfold y_deed
          rw [e1]
          show y_bd (y_old a m N 4 (v 1 0 0) p.2) _ = _
          rw [e2]
          show y_bd (y_nbr a m 1 99 i.2) _ = _
          rw [e3]
          rfl
        | inr x =>
          obtain ⟨rfl, F3, rfl, p2, p1⟩ := x_PUm_r e3 hpo
          have c3 : F3 501 = va_up (va_up (va_up (f 501) (rr + 1) (nI p.1)) (rr + 2) (nI i.1)) (rr + 3) (nI x.1) := by rw [p1.1 501 (by decide), x_up_c, c2]
          refine And.intro (fun c => absurd (show (1 : Int32) = 0 from c) (by decide)) (fun _ => ?_)
          refine And.intro ?_ ⟨Or.inr rfl, Nat.le_refl _, Nat.le_refl _⟩
          rw [hPo]
          refine x_PO6_R (w := ((13, p.1, i.1, x.1, 0), x.2)) ((y_ordr_G (Or.inr rfl)).trans ?_) (x_fO_t f2 (x_fO_t (x_fO_up (i := rr + 3) (x := nI x.1) (by omega)) (x_fO_5 p1))) p2 ⟨?_, fun _ => ⟨?_, ?_, ?_⟩, fun h => absurd (show (13 : Nat) = 16 ∨ (13 : Nat) = 22 from h) (by decide), fun h => absurd (show 18 ≤ (13 : Nat) ∧ (13 : Nat) ≤ 20 from h) (by decide)⟩
          · unfold y_deed
            rw [e1]
            show y_bd (y_old a m N 4 (v 1 0 0) p.2) _ = _
            rw [e2]
            show y_bd (y_nbr a m 1 99 i.2) _ = _
            rw [e3]
            rfl
          · rw [c3, x_un (by omega), x_un (by omega), x_un (by omega)]
            exact hrw
          · rw [c3, x_un (by omega), x_un (by omega), x_us]
          · rw [c3, x_un (by omega), x_us]
          · rw [c3, x_us]
  · have ww : (nI 14).toInt = 14 := rfl
    have no : ∀ F e, y_deed a m N (v 2 0 0) (v 0 0 0) 0 14 q = .inl e → x_fO rr f F → x_FM F e → x_J 221 (d + 10) Po 96 [some (.ref 500), some (.int (nI 14)), some (.int (nI rr))] [] (F, g, x_HR r t, dm, n) 0 0 := by
      intro F e hX hf he
      refine x_wp_ok ok221 [] 6 ?_
      refine And.intro ?_ ⟨Or.inl rfl, Nat.le_refl _, Nat.le_refl _⟩
      rw [hPo]
      exact x_PO6_L ((y_ordr_K (Or.inr (Or.inl rfl))).trans hX) hf he
    refine x_Ct_w (by decide) (Nat.le_of_ble_eq_true rfl) ok221 [96] 6 ?_
    refine And.intro (And.intro (fun c => absurd (ww.symm.trans c) (by decide)) (And.intro (fun c => absurd (ww.symm.trans c) (by decide)) (And.intro (fun c => absurd (ww.symm.trans c) (by decide)) (And.intro (fun _ => ?_) (And.intro (fun c => absurd (ww.symm.trans c) (by decide)) (And.intro (fun c => absurd (ww.symm.trans c) (by decide)) (And.intro (fun c => absurd (ww.symm.trans c) (by decide)) (And.intro (fun c => absurd (ww.symm.trans c) (by decide)) (And.intro (fun c => absurd (ww.symm.trans c) (by decide)) trivial))))))))) (fun c => absurd c (by rw [ww]; decide))
    show ∃ P, x_Ct 219 (d + 9) [.ref 500, .int (nI rr + Int32.ofInt 1)] (f, g, x_HR r t, dm, n) P ∧ _
    rw [i1]
    refine Exists.intro _ (And.intro (m_personTo (to := rr + 1) (v := v) (N := N) (by omega) hT hR h2 b2 hN) (And.intro (And.intro (Nat.zero_le _) (Nat.zero_le _)) (fun zq h' hpo => ?_)))
    cases e1 : y_old a m N 9 (v 2 0 0) q with
    | inl e =>
      rw [e1] at hpo
      obtain ⟨rfl, F1, rfl, u1, u2⟩ := hpo
      refine And.intro (fun _ => ?_) (fun c => absurd rfl c)
      refine no F1 e ?_ (x_fO_q (by omega) u1) u2
      unfold y_deed
      rw [e1]
      rfl
    | inr p =>
      rw [e1] at hpo
      obtain ⟨rfl, F1, rfl, u2, u1⟩ := hpo
      have c1 : F1 501 = va_up (f 501) (rr + 1) (nI p.1) := by rw [u1.1 501 (by decide), x_up_c]
      have f1 : x_fO rr f F1 := x_fO_t (x_fO_up (i := rr + 1) (x := nI p.1) (by omega)) (x_fO_5 u1)
      have e0 : F1 501 0 = nI (v 0 0 0) := by rw [c1, x_un (by omega)]; exact h0
      refine And.intro (fun c => absurd (show (1 : Int32) = 0 from c) (by decide)) (fun _ => ?_)
      refine And.intro (by unfold x_ix; decide) ?_
      show ∃ P, x_Ct 212 (d + 9) [.ref 500, .int (nI 0), .int (F1 501 0), .int (nI rr + Int32.ofInt 2)] (F1, g, x_HR r t, dm, n) P ∧ _
      rw [i2, e0]
      refine Exists.intro _ (And.intro (m_oldQ (to := rr + 2) (b := 0) (b' := 0) (N := N) (by omega) (by omega) (by omega) hT u2 (y_NR_0 hN _)) (And.intro (And.intro (Nat.zero_le _) (Nat.zero_le _)) (fun zq h' hpo => ?_)))
      cases e2 : y_old a m N 0 (v 0 0 0) p.2 with
      | inl e =>
        rw [e2] at hpo
        obtain ⟨rfl, F2, rfl, w1, w2⟩ := hpo
        refine And.intro (fun _ => ?_) (fun c => absurd rfl c)
        refine no F2 e ?_ (x_fO_t f1 (x_fO_q (by omega) w1)) w2
        unfold y_deed
        rw [e1]
        show y_bd (y_old a m N 0 (v 0 0 0) p.2) _ = _
        rw [e2]
        rfl
      | inr i =>
        rw [e2] at hpo
        obtain ⟨rfl, F2, rfl, w2, w1⟩ := hpo
        have c2 : F2 501 = va_up (va_up (f 501) (rr + 1) (nI p.1)) (rr + 2) (nI i.1) := by rw [w1.1 501 (by decide), x_up_c, c1]
        have f2 : x_fO rr f F2 := x_fO_t f1 (x_fO_t (x_fO_up (i := rr + 2) (x := nI i.1) (by omega)) (x_fO_5 w1))
        refine And.intro (fun c => absurd (show (1 : Int32) = 0 from c) (by decide)) (fun _ => ?_)
        show ∃ P, x_Ct 204 (d + 9) [.ref 500, .int (nI rr + Int32.ofInt 3), .int (nI 1), .int (nI 99)] (F2, g, x_HR r t, dm, n) P ∧ _
        rw [i3]
        refine Exists.intro _ (And.intro (m_number (to := rr + 3) (lo := 1) (hi := 99) (by omega) (by decide) (by decide) hT w2) (And.intro (And.intro (Nat.zero_le _) (Nat.zero_le _)) (fun zq h' hpo => ?_)))
        cases e3 : y_nbr a m 1 99 i.2 with
        | inl e =>
          obtain ⟨rfl, F3, rfl, p1, p2⟩ := x_PUm_l e3 hpo
          refine And.intro (fun _ => ?_) (fun c => absurd rfl c)
          refine no F3 e ?_ (x_fO_t f2 (x_fO_5 p1)) p2
          unfold y_deed
          rw [e1]
          show y_bd (y_old a m N 0 (v 0 0 0) p.2) _ = _
          rw [e2]
          show y_bd (y_nbr a m 1 99 i.2) _ = _
          rw [e3]
          rfl
        | inr x =>
          obtain ⟨rfl, F3, rfl, p2, p1⟩ := x_PUm_r e3 hpo
          have c3 : F3 501 = va_up (va_up (va_up (f 501) (rr + 1) (nI p.1)) (rr + 2) (nI i.1)) (rr + 3) (nI x.1) := by rw [p1.1 501 (by decide), x_up_c, c2]
          refine And.intro (fun c => absurd (show (1 : Int32) = 0 from c) (by decide)) (fun _ => ?_)
          refine And.intro ?_ ⟨Or.inr rfl, Nat.le_refl _, Nat.le_refl _⟩
          rw [hPo]
          refine x_PO6_R (w := ((14, p.1, i.1, x.1, 0), x.2)) ((y_ordr_K (Or.inr (Or.inl rfl))).trans ?_) (x_fO_t f2 (x_fO_t (x_fO_up (i := rr + 3) (x := nI x.1) (by omega)) (x_fO_5 p1))) p2 ⟨?_, fun _ => ⟨?_, ?_, ?_⟩, fun h => absurd (show (14 : Nat) = 16 ∨ (14 : Nat) = 22 from h) (by decide), fun h => absurd (show 18 ≤ (14 : Nat) ∧ (14 : Nat) ≤ 20 from h) (by decide)⟩
          · unfold y_deed
            rw [e1]
            show y_bd (y_old a m N 0 (v 0 0 0) p.2) _ = _
            rw [e2]
            show y_bd (y_nbr a m 1 99 i.2) _ = _
            rw [e3]
            rfl
          · rw [c3, x_un (by omega), x_un (by omega), x_un (by omega)]
            exact hrw
          · rw [c3, x_un (by omega), x_un (by omega), x_us]
          · rw [c3, x_un (by omega), x_us]
          · rw [c3, x_us]
  · have ww : (nI 15).toInt = 15 := rfl
    have no : ∀ F e, y_deed a m N (v 2 0 0) (v 0 0 0) 0 15 q = .inl e → x_fO rr f F → x_FM F e → x_J 221 (d + 10) Po 96 [some (.ref 500), some (.int (nI 15)), some (.int (nI rr))] [] (F, g, x_HR r t, dm, n) 0 0 := by
      intro F e hX hf he
      refine x_wp_ok ok221 [] 6 ?_
      refine And.intro ?_ ⟨Or.inl rfl, Nat.le_refl _, Nat.le_refl _⟩
      rw [hPo]
      exact x_PO6_L ((y_ordr_K (Or.inr (Or.inr rfl))).trans hX) hf he
    refine x_Ct_w (by decide) (Nat.le_of_ble_eq_true rfl) ok221 [96] 6 ?_
    refine And.intro (And.intro (fun c => absurd (ww.symm.trans c) (by decide)) (And.intro (fun c => absurd (ww.symm.trans c) (by decide)) (And.intro (fun c => absurd (ww.symm.trans c) (by decide)) (And.intro (fun c => absurd (ww.symm.trans c) (by decide)) (And.intro (fun _ => ?_) (And.intro (fun c => absurd (ww.symm.trans c) (by decide)) (And.intro (fun c => absurd (ww.symm.trans c) (by decide)) (And.intro (fun c => absurd (ww.symm.trans c) (by decide)) (And.intro (fun c => absurd (ww.symm.trans c) (by decide)) trivial))))))))) (fun c => absurd c (by rw [ww]; decide))
    show ∃ P, x_Ct 219 (d + 9) [.ref 500, .int (nI rr + Int32.ofInt 1)] (f, g, x_HR r t, dm, n) P ∧ _
    rw [i1]
    refine Exists.intro _ (And.intro (m_personTo (to := rr + 1) (v := v) (N := N) (by omega) hT hR h2 b2 hN) (And.intro (And.intro (Nat.zero_le _) (Nat.zero_le _)) (fun zq h' hpo => ?_)))
    cases e1 : y_old a m N 9 (v 2 0 0) q with
    | inl e =>
      rw [e1] at hpo
      obtain ⟨rfl, F1, rfl, u1, u2⟩ := hpo
      refine And.intro (fun _ => ?_) (fun c => absurd rfl c)
      refine no F1 e ?_ (x_fO_q (by omega) u1) u2
      unfold y_deed
      rw [e1]
      rfl
    | inr p =>
      rw [e1] at hpo
      obtain ⟨rfl, F1, rfl, u2, u1⟩ := hpo
      have c1 : F1 501 = va_up (f 501) (rr + 1) (nI p.1) := by rw [u1.1 501 (by decide), x_up_c]
      have f1 : x_fO rr f F1 := x_fO_t (x_fO_up (i := rr + 1) (x := nI p.1) (by omega)) (x_fO_5 u1)
      have e0 : F1 501 0 = nI (v 0 0 0) := by rw [c1, x_un (by omega)]; exact h0
      refine And.intro (fun c => absurd (show (1 : Int32) = 0 from c) (by decide)) (fun _ => ?_)
      refine And.intro (by unfold x_ix; decide) ?_
      show ∃ P, x_Ct 212 (d + 9) [.ref 500, .int (nI 0), .int (F1 501 0), .int (nI rr + Int32.ofInt 2)] (F1, g, x_HR r t, dm, n) P ∧ _
      rw [i2, e0]
      refine Exists.intro _ (And.intro (m_oldQ (to := rr + 2) (b := 0) (b' := 0) (N := N) (by omega) (by omega) (by omega) hT u2 (y_NR_0 hN _)) (And.intro (And.intro (Nat.zero_le _) (Nat.zero_le _)) (fun zq h' hpo => ?_)))
      cases e2 : y_old a m N 0 (v 0 0 0) p.2 with
      | inl e =>
        rw [e2] at hpo
        obtain ⟨rfl, F2, rfl, w1, w2⟩ := hpo
        refine And.intro (fun _ => ?_) (fun c => absurd rfl c)
        refine no F2 e ?_ (x_fO_t f1 (x_fO_q (by omega) w1)) w2
        unfold y_deed
        rw [e1]
        show y_bd (y_old a m N 0 (v 0 0 0) p.2) _ = _
        rw [e2]
        rfl
      | inr i =>
        rw [e2] at hpo
        obtain ⟨rfl, F2, rfl, w2, w1⟩ := hpo
        have c2 : F2 501 = va_up (va_up (f 501) (rr + 1) (nI p.1)) (rr + 2) (nI i.1) := by rw [w1.1 501 (by decide), x_up_c, c1]
        have f2 : x_fO rr f F2 := x_fO_t f1 (x_fO_t (x_fO_up (i := rr + 2) (x := nI i.1) (by omega)) (x_fO_5 w1))
        refine And.intro (fun c => absurd (show (1 : Int32) = 0 from c) (by decide)) (fun _ => ?_)
        show ∃ P, x_Ct 204 (d + 9) [.ref 500, .int (nI rr + Int32.ofInt 3), .int (nI 1), .int (nI 99)] (F2, g, x_HR r t, dm, n) P ∧ _
        rw [i3]
        refine Exists.intro _ (And.intro (m_number (to := rr + 3) (lo := 1) (hi := 99) (by omega) (by decide) (by decide) hT w2) (And.intro (And.intro (Nat.zero_le _) (Nat.zero_le _)) (fun zq h' hpo => ?_)))
        cases e3 : y_nbr a m 1 99 i.2 with
        | inl e =>
          obtain ⟨rfl, F3, rfl, p1, p2⟩ := x_PUm_l e3 hpo
          refine And.intro (fun _ => ?_) (fun c => absurd rfl c)
          refine no F3 e ?_ (x_fO_t f2 (x_fO_5 p1)) p2
          unfold y_deed
          rw [e1]
          show y_bd (y_old a m N 0 (v 0 0 0) p.2) _ = _
          rw [e2]
          show y_bd (y_nbr a m 1 99 i.2) _ = _
          rw [e3]
          rfl
        | inr x =>
          obtain ⟨rfl, F3, rfl, p2, p1⟩ := x_PUm_r e3 hpo
          have c3 : F3 501 = va_up (va_up (va_up (f 501) (rr + 1) (nI p.1)) (rr + 2) (nI i.1)) (rr + 3) (nI x.1) := by rw [p1.1 501 (by decide), x_up_c, c2]
          refine And.intro (fun c => absurd (show (1 : Int32) = 0 from c) (by decide)) (fun _ => ?_)
          refine And.intro ?_ ⟨Or.inr rfl, Nat.le_refl _, Nat.le_refl _⟩
          rw [hPo]
          refine x_PO6_R (w := ((15, p.1, i.1, x.1, 0), x.2)) ((y_ordr_K (Or.inr (Or.inr rfl))).trans ?_) (x_fO_t f2 (x_fO_t (x_fO_up (i := rr + 3) (x := nI x.1) (by omega)) (x_fO_5 p1))) p2 ⟨?_, fun _ => ⟨?_, ?_, ?_⟩, fun h => absurd (show (15 : Nat) = 16 ∨ (15 : Nat) = 22 from h) (by decide), fun h => absurd (show 18 ≤ (15 : Nat) ∧ (15 : Nat) ≤ 20 from h) (by decide)⟩
          · unfold y_deed
            rw [e1]
            show y_bd (y_old a m N 0 (v 0 0 0) p.2) _ = _
            rw [e2]
            show y_bd (y_nbr a m 1 99 i.2) _ = _
            rw [e3]
            rfl
          · rw [c3, x_un (by omega), x_un (by omega), x_un (by omega)]
            exact hrw
          · rw [c3, x_un (by omega), x_un (by omega), x_us]
          · rw [c3, x_un (by omega), x_us]
          · rw [c3, x_us]
  · have ww : (nI 16).toInt = 16 := rfl
    refine x_Ct_w (by decide) (Nat.le_of_ble_eq_true rfl) ok221 [] 6 ?_
    refine And.intro (And.intro (fun c => absurd (ww.symm.trans c) (by decide)) (And.intro (fun c => absurd (ww.symm.trans c) (by decide)) (And.intro (fun c => absurd (ww.symm.trans c) (by decide)) (And.intro (fun c => absurd (ww.symm.trans c) (by decide)) (And.intro (fun c => absurd (ww.symm.trans c) (by decide)) (And.intro (fun _ => ?_) (And.intro (fun c => absurd (ww.symm.trans c) (by decide)) (And.intro (fun c => absurd (ww.symm.trans c) (by decide)) (And.intro (fun c => absurd (ww.symm.trans c) (by decide)) trivial))))))))) (fun c => absurd c (by rw [ww]; decide))
    show ∃ P, x_Ct 204 (d + 9) [.ref 500, .int (nI rr + Int32.ofInt 1), .int (nI 1), .int (nI 20)] (f, g, x_HR r t, dm, n) P ∧ _
    rw [i1]
    refine Exists.intro _ (And.intro (m_number (to := rr + 1) (lo := 1) (hi := 20) (by omega) (by decide) (by decide) hT hR) (And.intro (And.intro (Nat.zero_le _) (Nat.zero_le _)) (fun zq h' hpo => ?_)))
    cases e3 : y_nbr a m 1 20 q with
    | inl e =>
      obtain ⟨rfl, F3, rfl, p1, p2⟩ := x_PUm_l e3 hpo
      refine And.intro ?_ ⟨Or.inl rfl, Nat.le_refl _, Nat.le_refl _⟩
      rw [hPo]
      refine x_PO6_L (y_ordr_16.trans ?_) (x_fO_5 p1) p2
      unfold y_numb
      rw [e3]
      rfl
    | inr x =>
      obtain ⟨rfl, F3, rfl, p2, p1⟩ := x_PUm_r e3 hpo
      have c3 : F3 501 = va_up (f 501) (rr + 1) (nI x.1) := by rw [p1.1 501 (by decide), x_up_c]
      refine And.intro ?_ ⟨Or.inr rfl, Nat.le_refl _, Nat.le_refl _⟩
      rw [hPo]
      refine x_PO6_R (w := ((16, 0, 0, x.1, 0), x.2)) (y_ordr_16.trans ?_) (x_fO_t (x_fO_up (i := rr + 1) (x := nI x.1) (by omega)) (x_fO_5 p1)) p2 ⟨?_, fun h => absurd (show (16 : Nat) ≤ 15 from h) (by decide), fun _ => ?_, fun h => absurd (show 18 ≤ (16 : Nat) ∧ (16 : Nat) ≤ 20 from h) (by decide)⟩
      · unfold y_numb
        rw [e3]
        rfl
      · rw [c3, x_un (by omega)]
        exact hrw
      · rw [c3, x_us]
  · have ww : (nI 17).toInt = 17 := rfl
    refine x_Ct_w (by decide) (Nat.le_of_ble_eq_true rfl) ok221 [] 6 ?_
    refine And.intro (And.intro (fun c => absurd (ww.symm.trans c) (by decide)) (And.intro (fun c => absurd (ww.symm.trans c) (by decide)) (And.intro (fun c => absurd (ww.symm.trans c) (by decide)) (And.intro (fun c => absurd (ww.symm.trans c) (by decide)) (And.intro (fun c => absurd (ww.symm.trans c) (by decide)) (And.intro (fun c => absurd (ww.symm.trans c) (by decide)) (And.intro (fun _ => ?_) (And.intro (fun c => absurd (ww.symm.trans c) (by decide)) (And.intro (fun c => absurd (ww.symm.trans c) (by decide)) trivial))))))))) (fun c => absurd c (by rw [ww]; decide))
    refine And.intro ?_ ⟨Or.inr rfl, Nat.le_refl _, Nat.le_refl _⟩
    rw [hPo]
    exact x_PO6_R (w := ((17, 0, 0, 0, 0), q)) y_ordr_17 x_fO_r hR ⟨hrw, fun h => absurd (show (17 : Nat) ≤ 15 from h) (by decide), fun h => absurd (show (17 : Nat) = 16 ∨ (17 : Nat) = 22 from h) (by decide), fun h => absurd (show 18 ≤ (17 : Nat) ∧ (17 : Nat) ≤ 20 from h) (by decide)⟩
  · have ww : (nI 18).toInt = 18 := rfl
    refine x_Ct_w (by decide) (Nat.le_of_ble_eq_true rfl) ok221 [] 6 ?_
    refine And.intro (And.intro (fun c => absurd (ww.symm.trans c) (by decide)) (And.intro (fun c => absurd (ww.symm.trans c) (by decide)) (And.intro (fun c => absurd (ww.symm.trans c) (by decide)) (And.intro (fun c => absurd (ww.symm.trans c) (by decide)) (And.intro (fun c => absurd (ww.symm.trans c) (by decide)) (And.intro (fun c => absurd (ww.symm.trans c) (by decide)) (And.intro (fun c => absurd (ww.symm.trans c) (by decide)) (And.intro (fun _ => ?_) (And.intro (fun c => absurd (ww.symm.trans c) (by decide)) trivial))))))))) (fun c => absurd c (by rw [ww]; decide))
    refine Exists.intro _ (And.intro (m_test (v := v) (N := N) hr0 hrr hT hR h1 h2 b1 b2 hN) (And.intro (And.intro (Nat.zero_le _) (Nat.zero_le _)) (fun zq h' hpo => ?_)))
    rw [← y_ordr_18 (K := v 0 0 0), ← hPo] at hpo
    have hz : zq = some (.int 0) ∨ zq = some (.int 1) := by
      rw [hPo] at hpo
      cases h : y_ordr a m N (v 2 0 0) (v 0 0 0) (v 1 0 0) 18 q with
      | inl e =>
        rw [h] at hpo
        exact Or.inl hpo.1
      | inr w =>
        rw [h] at hpo
        exact Or.inr hpo.1
    rcases hz with rfl | rfl
    · refine And.intro hpo ⟨Or.inl rfl, Nat.le_refl _, Nat.le_refl _⟩
    · refine And.intro hpo ⟨Or.inr rfl, Nat.le_refl _, Nat.le_refl _⟩
  · have ww : (nI 19).toInt = 19 := rfl
    refine x_Ct_w (by decide) (Nat.le_of_ble_eq_true rfl) ok221 [] 6 ?_
    refine And.intro (And.intro (fun c => absurd (ww.symm.trans c) (by decide)) (And.intro (fun c => absurd (ww.symm.trans c) (by decide)) (And.intro (fun c => absurd (ww.symm.trans c) (by decide)) (And.intro (fun c => absurd (ww.symm.trans c) (by decide)) (And.intro (fun c => absurd (ww.symm.trans c) (by decide)) (And.intro (fun c => absurd (ww.symm.trans c) (by decide)) (And.intro (fun c => absurd (ww.symm.trans c) (by decide)) (And.intro (fun c => absurd (ww.symm.trans c) (by decide)) (And.intro (fun _ => ?_) trivial))))))))) (fun c => absurd c (by rw [ww]; decide))
    show ∃ P, x_Ct 204 (d + 9) [.ref 500, .int (nI rr + Int32.ofInt 1), .int (nI 1), .int (nI 99)] (f, g, x_HR r t, dm, n) P ∧ _
    rw [i1]
    refine Exists.intro _ (And.intro (m_number (to := rr + 1) (lo := 1) (hi := 99) (by omega) (by decide) (by decide) hT hR) (And.intro (And.intro (Nat.zero_le _) (Nat.zero_le _)) (fun zq h' hpo => ?_)))
    cases e3 : y_nbr a m 1 99 q with
    | inl e =>
      obtain ⟨rfl, F3, rfl, p1, p2⟩ := x_PUm_l e3 hpo
      refine And.intro ?_ ⟨Or.inl rfl, Nat.le_refl _, Nat.le_refl _⟩
      rw [hPo]
      refine x_PO6_L (y_ordr_19.trans ?_) (x_fO_5 p1) p2
      unfold y_numb
      rw [e3]
      rfl
    | inr x =>
      obtain ⟨rfl, F3, rfl, p2, p1⟩ := x_PUm_r e3 hpo
      have c3 : F3 501 = va_up (f 501) (rr + 1) (nI x.1) := by rw [p1.1 501 (by decide), x_up_c]
      refine And.intro ?_ ⟨Or.inr rfl, Nat.le_refl _, Nat.le_refl _⟩
      rw [hPo]
      refine x_PO6_R (w := ((22, 0, 0, x.1, 0), x.2)) (y_ordr_19.trans ?_) (x_fO_t (x_fO_up (i := rr + 1) (x := nI x.1) (by omega)) (x_fO_5 p1)) p2 ⟨?_, fun h => absurd (show (22 : Nat) ≤ 15 from h) (by decide), fun _ => ?_, fun h => absurd (show 18 ≤ (22 : Nat) ∧ (22 : Nat) ≤ 20 from h) (by decide)⟩
      · unfold y_numb
        rw [e3]
        rfl
      · rw [c3, x_un (by omega)]
        exact hrw
      · rw [c3, x_us]
  · have ww : (nI 21).toInt = 21 := rfl
    refine x_Ct_w (by decide) (Nat.le_of_ble_eq_true rfl) ok221 [] 6 ?_
    refine And.intro (And.intro (fun c => absurd (ww.symm.trans c) (by decide)) (And.intro (fun c => absurd (ww.symm.trans c) (by decide)) (And.intro (fun c => absurd (ww.symm.trans c) (by decide)) (And.intro (fun c => absurd (ww.symm.trans c) (by decide)) (And.intro (fun c => absurd (ww.symm.trans c) (by decide)) (And.intro (fun c => absurd (ww.symm.trans c) (by decide)) (And.intro (fun c => absurd (ww.symm.trans c) (by decide)) (And.intro (fun c => absurd (ww.symm.trans c) (by decide)) (And.intro (fun c => absurd (ww.symm.trans c) (by decide)) trivial))))))))) (fun _ => ?_)
    refine And.intro ?_ ⟨Or.inr rfl, Nat.le_refl _, Nat.le_refl _⟩
    rw [hPo]
    exact x_PO6_R (w := ((24, 0, 0, 0, 0), q)) y_ordr_21 x_fO_r hR ⟨hrw, fun h => absurd (show (24 : Nat) ≤ 15 from h) (by decide), fun h => absurd (show (24 : Nat) = 16 ∨ (24 : Nat) = 22 from h) (by decide), fun h => absurd (show 18 ≤ (24 : Nat) ∧ (24 : Nat) ≤ 20 from h) (by decide)⟩
end Ca1
