/-! the model reads the orders of REIGNS: the line's row is rr -/
def x_PQo (a : Nat → Int32) (m to : Nat) (f : Nat → Nat → Int32) (g : Nat → Nat → Int64) (ρ : Nat → Nat → Option Nat) (dm : List Nat) (n : Nat) (X : xF (Nat × Nat)) (z : Option Value) (h' : xH) : Prop := match X with
  | .inl e => z = some (.int 0) ∧ ∃ F, h' = (F, g, ρ, dm, n) ∧ (x_f5 f F ∨ ∃ x, x_f5 (x_up f 501 to x) F) ∧ x_FM F e
  | .inr w => z = some (.int 1) ∧ ∃ F, h' = (F, g, ρ, dm, n) ∧ x_RMt a m w.2 F ∧ x_f5 (x_up f 501 to (nI w.1)) F
def x_fO (rr : Nat) (f F : Nat → Nat → Int32) : Prop := (∀ c, c ≠ 500 → c ≠ 501 → F c = f c) ∧ (∀ j, j < 12 ∨ j = 16 ∨ 18 < j → F 500 j = f 500 j) ∧ ∀ j, j < rr ∨ rr + 5 < j → F 501 j = f 501 j
def x_om (rr : Nat) (z : xN5) (F : Nat → Nat → Int32) : Prop := F 501 rr = nI (y_om z.1) ∧ (z.1 ≤ 15 → F 501 (rr + 1) = nI z.2.1 ∧ F 501 (rr + 2) = nI z.2.2.1 ∧ F 501 (rr + 3) = nI z.2.2.2.1) ∧ (z.1 = 16 ∨ z.1 = 22 → F 501 (rr + 1) = nI z.2.2.2.1) ∧ (18 ≤ z.1 ∧ z.1 ≤ 20 → (z.1 ≠ 18 → F 501 (rr + 1) = nI z.2.1) ∧ F 501 (rr + 2) = nI z.2.2.2.1 ∧ F 501 (rr + 5) = nI z.2.2.2.2)
def x_PO6 (rr : Nat) (a : Nat → Int32) (m : Nat) (f : Nat → Nat → Int32) (g : Nat → Nat → Int64) (ρ : Nat → Nat → Option Nat) (dm : List Nat) (n : Nat) (X : xF (xN5 × Nat)) (z : Option Value) (h' : xH) : Prop := match X with
  | .inl e => z = some (.int 0) ∧ ∃ F, h' = (F, g, ρ, dm, n) ∧ x_fO rr f F ∧ x_FM F e
  | .inr w => z = some (.int 1) ∧ ∃ F, h' = (F, g, ρ, dm, n) ∧ x_fO rr f F ∧ x_RMt a m w.2 F ∧ x_om rr w.1 F
section Ca0
variable {f : Nat → Nat → Int32} {g : Nat → Nat → Int64} {r t rr : Nat} {dm : List Nat} {n d L : Nat} {v : xV} {a : Nat → Int32} {m q : Nat} {N : Nat → Int64} {ρ : Nat → Nat → Option Nat} {X : xF (xN5 × Nat)} {z : Option Value} {h' : xH} {e : Nat × Nat} {w : xN5 × Nat} {F : Nat → Nat → Int32}
theorem x_fO_r : x_fO rr f f := ⟨fun _ _ _ => rfl, fun _ _ => rfl, fun _ _ => rfl⟩
theorem x_fO_t {F2 : Nat → Nat → Int32} (h1 : x_fO rr f F) (h2 : x_fO rr F F2) : x_fO rr f F2 := ⟨fun c c1 c2 => (h2.1 c c1 c2).trans (h1.1 c c1 c2), fun j hj => (h2.2.1 j hj).trans (h1.2.1 j hj), fun j hj => (h2.2.2 j hj).trans (h1.2.2 j hj)⟩
theorem x_fO_5 (h : x_f5 f F) : x_fO rr f F := ⟨fun c c1 _ => h.1 c c1, h.2, fun j _ => by rw [h.1 501 (by decide)]⟩
theorem x_fO_up {i : Nat} {x : Int32} (hi : rr ≤ i ∧ i ≤ rr + 5) : x_fO rr f (x_up f 501 i x) := ⟨fun c _ c2 => x_up_k c2, fun j _ => by rw [x_up_k (by decide)], fun j hj => x_up_j (by omega)⟩
theorem x_fO_q {to : Nat} (hto : rr ≤ to ∧ to ≤ rr + 5) (h : x_f5 f F ∨ ∃ x, x_f5 (x_up f 501 to x) F) : x_fO rr f F := by
  rcases h with h | ⟨x, h⟩
  · exact x_fO_5 h
  · exact x_fO_t (x_fO_up hto) (x_fO_5 h)
theorem x_PO6_L (hX : X = .inl e) (h1 : x_fO rr f F) (h2 : x_FM F e) : x_PO6 rr a m f g ρ dm n X (some (.int 0)) (F, g, ρ, dm, n) := by
  subst hX
  exact ⟨rfl, F, rfl, h1, h2⟩
theorem x_PO6_R (hX : X = .inr w) (h1 : x_fO rr f F) (h2 : x_RMt a m w.2 F) (h3 : x_om rr w.1 F) : x_PO6 rr a m f g ρ dm n X (some (.int 1)) (F, g, ρ, dm, n) := by
  subst hX
  exact ⟨rfl, F, rfl, h1, h2, h3⟩
theorem m_oldQ {b M to b' : Nat} (hto : to < 3168) (hb : b + M ≤ 84) (hM : M ≤ 9) (hT : y_TP a m) (hR : x_RMt a m q f) (hN : y_fd (g 502) (y_lt a m q) b M 0 = y_fd N (y_lt a m q) b' M 0) : x_Ct 212 (d + 7) [.ref 500, .int (nI b), .int (nI M), .int (nI to)] (f, g, x_HR r t, dm, n) (x_PQo a m to f g (x_HR r t) dm n (y_old a m N b' M q)) := x_Ct_mono (m_oldOne hto hb hM hT hR hN) (fun _ _ h => h)
theorem m_personTo {to : Nat} (hto : to < 3168) (hT : y_TP a m) (hR : x_RMt a m q f) (h2 : f 501 2 = nI (v 2 0 0)) (b2 : v 2 0 0 ≤ 5) (hN : y_NR (g 502) v N) : x_Ct 219 (d + 8) [.ref 500, .int (nI to)] (f, g, x_HR r t, dm, n) (x_PQo a m to f g (x_HR r t) dm n (y_old a m N 9 (v 2 0 0) q)) := by
  obtain ⟨Po, hPo⟩ : ∃ Po : Option Value → xH → Prop, Po = x_PQo a m to f g (x_HR r t) dm n (y_old a m N 9 (v 2 0 0) q) := ⟨_, rfl⟩
  rw [← hPo]
  refine x_Ct_w (by decide) (Nat.le_of_ble_eq_true rfl) ok219 [] 6 ?_
  refine And.intro (by unfold x_ix; decide) ?_
  show ∃ P, x_Ct 212 (d + 7) [.ref 500, .int (nI 9), .int (f 501 2), .int (nI to)] (f, g, x_HR r t, dm, n) P ∧ _
  rw [h2]
  refine Exists.intro _ (And.intro (m_oldQ (b := 9) (b' := 9) hto (by omega) (by omega) hT hR (y_NR_9 hN _)) (And.intro (And.intro (Nat.zero_le _) (Nat.zero_le _)) (fun zq h' hpo => ?_)))
  rw [← hPo] at hpo
  have hz : zq = some (.int 0) ∨ zq = some (.int 1) := by
    rw [hPo] at hpo
    cases h : y_old a m N 9 (v 2 0 0) q with
    | inl e =>
      rw [h] at hpo
      exact Or.inl hpo.1
    | inr w =>
      rw [h] at hpo
      exact Or.inr hpo.1
  rcases hz with rfl | rfl
  · refine And.intro hpo ⟨Or.inl rfl, Nat.le_refl _, Nat.le_refl _⟩
  · refine And.intro hpo ⟨Or.inr rfl, Nat.le_refl _, Nat.le_refl _⟩
theorem m_testRest {q2 p o hi : Nat} {w : Int32} {Po : Option Value → xH → Prop} (hrr : rr + 5 < 3168) (hw : (w = 22 ∧ o = 18 ∧ hi = 999) ∨ (w = 23 ∧ o = 19 ∧ hi = 9999) ∨ (w = 24 ∧ o = 20 ∧ hi = 9999)) (hT : y_TP a m) (hPo : Po = x_PO6 rr a m f g (x_HR r t) dm n X) (hR : x_RMt a m q2 F) (hf : x_fO rr f F) (h0 : F 501 rr = nI (y_om o)) (h1 : o ≠ 18 → F 501 (rr + 1) = nI p) (hY : X = if y_tk a m q2 = 60 ∨ y_tk a m q2 = 62 ∨ y_tk a m q2 = 61 then y_bd (y_nbr a m 0 hi (y_nxt a m q2)) (fun x => .inr ((o, p, 0, x.1, (y_tk a m q2).toNatClampNeg), x.2)) else .inl (y_fl a m q2 2)) : x_J 220 (d + 9) Po 75 [some (.ref 500), some (.int (nI rr)), some (.int w)] [] (F, g, x_HR r t, dm, n) 0 0 := by
  have i5 : nI rr + Int32.ofInt 5 = nI (rr + 5) := nI_add rr 5
  have i2 : nI rr + Int32.ofInt 2 = nI (rr + 2) := nI_add rr 2
  have go : (y_tk a m q2 = 60 ∨ y_tk a m q2 = 62 ∨ y_tk a m q2 = 61) → x_J 220 (d + 9) Po 108 [some (.ref 500), some (.int (nI rr)), some (.int w)] [] (F, g, x_HR r t, dm, n) 0 0 := by
    intro hs
    have hsa : y_sa a m q2 ≠ 3 := by
      rcases hs with h | h | h <;> rw [y_tk_sa h (by decide)] <;> decide
    rw [if_pos hs] at hY
    have hcl : y_tk a m q2 = nI (y_tk a m q2).toNatClampNeg := by
      rcases hs with h | h | h <;> rw [h] <;> rfl
    have h15 : F 500 15 = y_tk a m q2 := hR.2.1.2.2.2.2.2 (by rcases hs with h | h | h <;> rw [h] <;> rfl)
    refine x_wp_ok ok220 [144] 6 ?_
    refine And.intro (by show x_ix (nI rr + Int32.ofInt 5) 3168; rw [i5]; exact x_ix_nI (by omega) (by omega)) ?_
    have c5 : (nI rr + Int32.ofInt 5).toNatClampNeg = rr + 5 := by rw [i5]; exact nI_clamp (by omega)
    show ∃ P, x_Ct 197 (d + 8) [.ref 500] (x_up F 501 (nI rr + Int32.ofInt 5).toNatClampNeg (F 500 15), g, x_HR r t, dm, n) P ∧ _
    rw [c5, h15]
    refine Exists.intro _ (And.intro (m_ahd hT (x_RMt_up hR) hsa) (And.intro (And.intro (Nat.zero_le _) (Nat.zero_le _)) (fun zq h' hpo => ?_)))
    obtain ⟨rfl, F2, rfl, w1, -, w3⟩ := hpo
    have e501 : F2 501 = va_up (F 501) (rr + 5) (y_tk a m q2) := by rw [w1.1 501 (by decide), x_up_c]
    have fr : x_fO rr f F2 := x_fO_t hf (x_fO_t (x_fO_up (i := rr + 5) (x := y_tk a m q2) (by omega)) (x_fO_5 w1))
    have last : x_J 220 (d + 9) Po 144 [some (.ref 500), some (.int (nI rr)), some (.int w)] [.int (nI hi), .int (nI 0), .int (nI (rr + 2)), .ref 500] (F2, g, x_HR r t, dm, n) 0 0 := by
      refine x_wp_ok ok220 [] 6 ?_
      refine Exists.intro _ (And.intro (m_number (to := rr + 2) (lo := 0) (hi := hi) (by omega) (by decide) (by omega) hT w3) (And.intro (And.intro (Nat.zero_le _) (Nat.zero_le _)) (fun zq h' hpo => ?_)))
      cases e4 : y_nbr a m 0 hi (y_nxt a m q2) with
      | inl e =>
        obtain ⟨rfl, F3, rfl, p1, p2⟩ := x_PUm_l e4 hpo
        refine And.intro ?_ ⟨Or.inl rfl, Nat.le_refl _, Nat.le_refl _⟩
        rw [hPo]
        refine x_PO6_L ?_ (x_fO_t fr (x_fO_5 p1)) p2
        rw [hY, e4]
        rfl
      | inr x =>
        obtain ⟨rfl, F3, rfl, p2, p1⟩ := x_PUm_r e4 hpo
        have e3 : F3 501 = va_up (va_up (F 501) (rr + 5) (y_tk a m q2)) (rr + 2) (nI x.1) := by rw [p1.1 501 (by decide), x_up_c, e501]
        refine And.intro ?_ ⟨Or.inr rfl, Nat.le_refl _, Nat.le_refl _⟩
        rw [hPo]
        refine x_PO6_R (w := ((o, p, 0, x.1, (y_tk a m q2).toNatClampNeg), x.2)) ?_ (x_fO_t fr (x_fO_t (x_fO_up (i := rr + 2) (x := nI x.1) (by omega)) (x_fO_5 p1))) p2 ⟨?_, fun h => absurd (show o ≤ 15 from h) (by omega), fun h => absurd (show o = 16 ∨ o = 22 from h) (by omega), fun _ => ⟨fun ho => ?_, ?_, ?_⟩⟩
        · rw [hY, e4]
          rfl
        · rw [e3, x_un (by omega), x_un (by omega)]
          exact h0
        · rw [e3, x_un (by omega), x_un (by omega)]
          exact h1 ho
        · rw [e3, x_us]
        · rw [e3, x_un (by omega), x_us]
          exact hcl
    rcases hw with ⟨rfl, rfl, rfl⟩ | ⟨rfl, rfl, rfl⟩ | ⟨rfl, rfl, rfl⟩
    · refine And.intro (fun c => absurd rfl c) (fun _ => ?_)
      rw [← i2] at last
      exact last
    · refine And.intro (fun _ => ?_) (fun c => absurd c (by decide))
      rw [← i2] at last
      exact last
    · refine And.intro (fun _ => ?_) (fun c => absurd c (by decide))
      rw [← i2] at last
      exact last
  refine x_wp_ok ok220 [108] 6 ?_
  refine Exists.intro _ (And.intro (m_isSign (c := 60) rfl hR) (And.intro (And.intro (Nat.zero_le _) (Nat.zero_le _)) (fun q h' hpo => ?_)))
  obtain ⟨rfl, rfl⟩ := hpo
  by_cases c60 : y_tk a m q2 = 60
  · rw [decide_eq_true c60]
    refine And.intro (fun _ => go (Or.inl c60)) (fun c => absurd (show (1 : Int32) = 0 from c) (by decide))
  · rw [decide_eq_false c60]
    refine And.intro (fun c => absurd rfl c) (fun _ => ?_)
    refine Exists.intro _ (And.intro (m_isSign (c := 62) rfl hR) (And.intro (And.intro (Nat.zero_le _) (Nat.zero_le _)) (fun q h' hpo => ?_)))
    obtain ⟨rfl, rfl⟩ := hpo
    by_cases c62 : y_tk a m q2 = 62
    · rw [decide_eq_true c62]
      refine And.intro (fun _ => go (Or.inr (Or.inl c62))) (fun c => absurd (show (1 : Int32) = 0 from c) (by decide))
    · rw [decide_eq_false c62]
      refine And.intro (fun c => absurd rfl c) (fun _ => ?_)
      refine Exists.intro _ (And.intro (m_isSign (c := 61) rfl hR) (And.intro (And.intro (Nat.zero_le _) (Nat.zero_le _)) (fun q h' hpo => ?_)))
      obtain ⟨rfl, rfl⟩ := hpo
      by_cases c61 : y_tk a m q2 = 61
      · rw [decide_eq_true c61]
        refine And.intro (fun _ => go (Or.inr (Or.inr c61))) (fun c => absurd (show (1 : Int32) = 0 from c) (by decide))
      · rw [decide_eq_false c61]
        refine And.intro (fun c => absurd rfl c) (fun _ => ?_)
        rw [if_neg (fun h => h.elim c60 (fun h => h.elim c62 c61))] at hY
        refine Exists.intro _ (And.intro (m_fails (k := 2) hR) (And.intro (And.intro (Nat.zero_le _) (Nat.zero_le _)) (fun zq h' hpo => ?_)))
        obtain ⟨rfl, F2, rfl, w1, w2⟩ := hpo
        refine And.intro ?_ ⟨Or.inl rfl, Nat.le_refl _, Nat.le_refl _⟩
        rw [hPo]
        exact x_PO6_L hY (x_fO_t hf (x_fO_5 w1)) w2
theorem m_test (hr0 : 2 < rr) (hrr : rr + 5 < 3168) (hT : y_TP a m) (hR : x_RMt a m q f) (h1 : f 501 1 = nI (v 1 0 0)) (h2 : f 501 2 = nI (v 2 0 0)) (b1 : v 1 0 0 ≤ 5) (b2 : v 2 0 0 ≤ 5) (hN : y_NR (g 502) v N) : x_Ct 220 (d + 9) [.ref 500, .int (nI rr)] (f, g, x_HR r t, dm, n) (x_PO6 rr a m f g (x_HR r t) dm n (y_tst a m N (v 2 0 0) (v 1 0 0) q)) := by
  obtain ⟨Po, hPo⟩ : ∃ Po : Option Value → xH → Prop, Po = x_PO6 rr a m f g (x_HR r t) dm n (y_tst a m N (v 2 0 0) (v 1 0 0) q) := ⟨_, rfl⟩
  rw [← hPo]
  have i1 : nI rr + Int32.ofInt 1 = nI (rr + 1) := nI_add rr 1
  have cr : (nI rr).toNatClampNeg = rr := nI_clamp (by omega)
  refine x_Ct_w (by decide) (Nat.le_of_ble_eq_true rfl) ok220 [7] 6 ?_
  refine Exists.intro _ (And.intro (m_inWords hT hR) (And.intro (And.intro (Nat.zero_le _) (Nat.zero_le _)) (fun q h' hpo => ?_)))
  obtain ⟨rfl, rfl⟩ := hpo
  show x_J 220 (d + 9) Po 7 [some (.ref 500), some (.int (nI rr)), some (.int (y_wm a m q))] [] (f, g, x_HR r t, dm, n) 0 0
  have one : ∀ j, j < 25 → y_wm a m q = nI j → y_sa a m q = 1 := by
    intro j hj h
    have no : ∀ j, j < 25 → ¬ nI j = -1 := by decide +kernel
    exact y_wm_sa (by rw [h]; exact no j hj)
  by_cases d22 : y_wm a m q = 22
  · have hs := one 22 (by decide) d22
    rw [d22]
    refine x_wp_ok ok220 [75] 6 ?_
    refine And.intro (fun _ => ?_) (fun c => absurd (by decide) c)
    refine And.intro (x_ix_nI (by omega) (by omega)) ?_
    show ∃ P, x_Ct 197 (d + 8) [.ref 500] (x_up f 501 (nI rr).toNatClampNeg (nI 1822), g, x_HR r t, dm, n) P ∧ _
    rw [cr]
    refine Exists.intro _ (And.intro (m_ahd hT (x_RMt_up hR) (by rw [hs]; decide)) (And.intro (And.intro (Nat.zero_le _) (Nat.zero_le _)) (fun zq h' hpo => ?_)))
    obtain ⟨rfl, F1, rfl, u1, -, u3⟩ := hpo
    refine And.intro (fun _ => ?_) (fun c => absurd c (by decide))
    refine And.intro (fun _ => ?_) (fun c => absurd c (by decide))
    refine m_testRest (p := 0) (o := 18) (hi := 999) hrr (Or.inl ⟨rfl, rfl, rfl⟩) hT hPo u3 (x_fO_t (x_fO_up (i := rr) (x := nI 1822) (by omega)) (x_fO_5 u1)) ?_ (fun h => absurd rfl h) ?_
    · rw [u1.1 501 (by decide), x_up_s]
      rfl
    · rw [y_tst_w d22 (Or.inl rfl) (o := 18) (by decide) (hi := 999) (by decide), y_obj_22]
      rfl
  by_cases d23 : y_wm a m q = 23
  · have hs := one 23 (by decide) d23
    have hn := y_nxt_gt (a := a) (m := m) (q := q) (by rw [hs]; decide)
    rw [d23]
    refine x_wp_ok ok220 [73, 75] 6 ?_
    refine And.intro (fun _ => ?_) (fun c => absurd (by decide) c)
    refine And.intro (x_ix_nI (by omega) (by omega)) ?_
    show ∃ P, x_Ct 197 (d + 8) [.ref 500] (x_up f 501 (nI rr).toNatClampNeg (nI 1823), g, x_HR r t, dm, n) P ∧ _
    rw [cr]
    refine Exists.intro _ (And.intro (m_ahd hT (x_RMt_up hR) (by rw [hs]; decide)) (And.intro (And.intro (Nat.zero_le _) (Nat.zero_le _)) (fun zq h' hpo => ?_)))
    obtain ⟨rfl, F1, rfl, u1, -, u3⟩ := hpo
    have e1 : F1 501 = va_up (f 501) rr (nI 1823) := by rw [u1.1 501 (by decide), x_up_c]
    have f1 : x_fO rr f F1 := x_fO_t (x_fO_up (i := rr) (x := nI 1823) (by omega)) (x_fO_5 u1)
    refine And.intro (fun c => absurd rfl c) (fun _ => ?_)
    show ∃ P, x_Ct 219 (d + 8) [.ref 500, .int (nI rr + Int32.ofInt 1)] (F1, g, x_HR r t, dm, n) P ∧ _
    rw [i1]
    refine Exists.intro _ (And.intro (m_personTo (to := rr + 1) (v := v) (N := N) (by omega) hT u3 (by rw [e1, x_un (by omega)]; exact h2) b2 hN) (And.intro (And.intro (Nat.zero_le _) (Nat.zero_le _)) (fun zq h' hpo => ?_)))
    cases e2 : y_old a m N 9 (v 2 0 0) (y_nxt a m q) with
    | inl e =>
      rw [e2] at hpo
      obtain ⟨rfl, F2, rfl, p1, p2⟩ := hpo
      refine And.intro (fun _ => ?_) (fun c => absurd rfl c)
      refine x_wp_ok ok220 [] 6 ?_
      refine And.intro ?_ ⟨Or.inl rfl, Nat.le_refl _, Nat.le_refl _⟩
      rw [hPo]
      refine x_PO6_L ?_ (x_fO_t f1 (x_fO_q (by omega) p1)) p2
      rw [y_tst_w d23 (Or.inr (Or.inl rfl)) (o := 19) (by decide) (hi := 9999) (by decide), y_obj_23, e2]
      rfl
    | inr p =>
      rw [e2] at hpo
      obtain ⟨rfl, F2, rfl, p2, p1⟩ := hpo
      have e3 : F2 501 = va_up (va_up (f 501) rr (nI 1823)) (rr + 1) (nI p.1) := by rw [p1.1 501 (by decide), x_up_c, e1]
      refine And.intro (fun c => absurd (show (1 : Int32) = 0 from c) (by decide)) (fun _ => ?_)
      refine And.intro (fun _ => ?_) (fun c => absurd c (by decide))
      refine m_testRest (p := p.1) (o := 19) (hi := 9999) hrr (Or.inr (Or.inl ⟨rfl, rfl, rfl⟩)) hT hPo p2 (x_fO_t f1 (x_fO_t (x_fO_up (i := rr + 1) (x := nI p.1) (by omega)) (x_fO_5 p1))) ?_ (fun _ => ?_) ?_
      · rw [e3, x_un (by omega), x_us]
        rfl
      · rw [e3, x_us]
      · rw [y_tst_w d23 (Or.inr (Or.inl rfl)) (o := 19) (by decide) (hi := 9999) (by decide), y_obj_23, e2]
        rfl
  by_cases d24 : y_wm a m q = 24
  · have hs := one 24 (by decide) d24
    have hn := y_nxt_gt (a := a) (m := m) (q := q) (by rw [hs]; decide)
    rw [d24]
    refine x_wp_ok ok220 [73, 75] 6 ?_
    refine And.intro (fun _ => ?_) (fun c => absurd (by decide) c)
    refine And.intro (x_ix_nI (by omega) (by omega)) ?_
    show ∃ P, x_Ct 197 (d + 8) [.ref 500] (x_up f 501 (nI rr).toNatClampNeg (nI 1824), g, x_HR r t, dm, n) P ∧ _
    rw [cr]
    refine Exists.intro _ (And.intro (m_ahd hT (x_RMt_up hR) (by rw [hs]; decide)) (And.intro (And.intro (Nat.zero_le _) (Nat.zero_le _)) (fun zq h' hpo => ?_)))
    obtain ⟨rfl, F1, rfl, u1, -, u3⟩ := hpo
    have e1 : F1 501 = va_up (f 501) rr (nI 1824) := by rw [u1.1 501 (by decide), x_up_c]
    have f1 : x_fO rr f F1 := x_fO_t (x_fO_up (i := rr) (x := nI 1824) (by omega)) (x_fO_5 u1)
    refine And.intro (fun _ => ?_) (fun c => absurd c (by decide))
    refine And.intro (fun c => absurd rfl c) (fun _ => ?_)
    refine And.intro (by unfold x_ix; decide) ?_
    have e11 : F1 501 1 = nI (v 1 0 0) := by rw [e1, x_un (by omega)]; exact h1
    show ∃ P, x_Ct 212 (d + 8) [.ref 500, .int (nI 4), .int (F1 501 1), .int (nI rr + Int32.ofInt 1)] (F1, g, x_HR r t, dm, n) P ∧ _
    rw [i1, e11]
    refine Exists.intro _ (And.intro (m_oldQ (to := rr + 1) (b := 4) (b' := 4) (N := N) (by omega) (by omega) (by omega) hT u3 (y_NR_4 hN _)) (And.intro (And.intro (Nat.zero_le _) (Nat.zero_le _)) (fun zq h' hpo => ?_)))
    cases e2 : y_old a m N 4 (v 1 0 0) (y_nxt a m q) with
    | inl e =>
      rw [e2] at hpo
      obtain ⟨rfl, F2, rfl, p1, p2⟩ := hpo
      refine And.intro (fun c => absurd rfl c) (fun _ => ?_)
      refine x_wp_ok ok220 [] 6 ?_
      refine And.intro ?_ ⟨Or.inl rfl, Nat.le_refl _, Nat.le_refl _⟩
      rw [hPo]
      refine x_PO6_L ?_ (x_fO_t f1 (x_fO_q (by omega) p1)) p2
      rw [y_tst_w d24 (Or.inr (Or.inr rfl)) (o := 20) (by decide) (hi := 9999) (by decide), y_obj_24, e2]
      rfl
    | inr p =>
      rw [e2] at hpo
      obtain ⟨rfl, F2, rfl, p2, p1⟩ := hpo
      have e3 : F2 501 = va_up (va_up (f 501) rr (nI 1824)) (rr + 1) (nI p.1) := by rw [p1.1 501 (by decide), x_up_c, e1]
      refine And.intro (fun _ => ?_) (fun c => absurd (show (1 : Int32) = 0 from c) (by decide))
      refine m_testRest (p := p.1) (o := 20) (hi := 9999) hrr (Or.inr (Or.inr ⟨rfl, rfl, rfl⟩)) hT hPo p2 (x_fO_t f1 (x_fO_t (x_fO_up (i := rr + 1) (x := nI p.1) (by omega)) (x_fO_5 p1))) ?_ (fun _ => ?_) ?_
      · rw [e3, x_un (by omega), x_us]
        rfl
      · rw [e3, x_us]
      · rw [y_tst_w d24 (Or.inr (Or.inr rfl)) (o := 20) (by decide) (hi := 9999) (by decide), y_obj_24, e2]
        rfl
  have hY : y_tst a m N (v 2 0 0) (v 1 0 0) q = .inl (y_fl a m q 2) := by
    unfold y_tst
    rw [if_neg (fun h => h.elim d22 (fun h => h.elim d23 d24))]
  have hlt : ¬ (22 : Int32) ≤ y_wm a m q := by
    rcases y_wm_rg a m q with h | ⟨i, hi, h⟩
    · rw [h]
      decide
    · rw [h]
      have e1 : i ≠ 22 := fun e => d22 (by rw [h, e]; rfl)
      have e2 : i ≠ 23 := fun e => d23 (by rw [h, e]; rfl)
      have e3 : i ≠ 24 := fun e => d24 (by rw [h, e]; rfl)
      exact nI_ge (b := 22) (by omega) (by decide)
  refine x_wp_ok ok220 [] 6 ?_
  refine And.intro (fun c => absurd c hlt) (fun _ => ?_)
  refine Exists.intro _ (And.intro (m_fails (k := 2) hR) (And.intro (And.intro (Nat.zero_le _) (Nat.zero_le _)) (fun zq h' hpo => ?_)))
  obtain ⟨rfl, F1, rfl, u1, u2⟩ := hpo
  refine And.intro ?_ ⟨Or.inl rfl, Nat.le_refl _, Nat.le_refl _⟩
  rw [hPo]
  exact x_PO6_L hY (x_fO_5 u1) u2
end Ca0
