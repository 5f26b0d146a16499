/-! land() of the model -/
def y_pln (A : Nat → Int32) (b j : Nat) : Int32 := if b ≤ j ∧ j < b + 464 then (if j = b + 3 then 500 else if j = b + 4 then 3 else if j = b + 7 then 1 else if j = b + 11 then -1 else 0) else A j
theorem y_byt_n {x : Int32} (h : y_byt x) : x.toInt8.toInt32 = x := by
  obtain ⟨k, hk, rfl⟩ := h
  have e : ∀ k : Nat, k < 256 → (Int32.ofInt ((k : Int) - 128)).toInt8.toInt32 = Int32.ofInt ((k : Int) - 128) := by decide +kernel
  exact e k hk
section C92
variable {f : Nat → Nat → Int32} {g : Nat → Nat → Int64} {r t : Nat} {dm : List Nat} {n d L : Nat} {v : xV} {a : Nat → Int32} {m q : Nat} {N : Nat → Int64} {S : xL} {ρ : Nat → Nat → Option Nat} {X : xF (xL × Nat)} {z : Option Value} {h' : xH} {e : Nat × Nat} {w : xL × Nat} {F : Nat → Nat → Int32} {G : Nat → Nat → Int64}
theorem m_plain {b : Nat} (hb : b + 464 ≤ 3168) : x_Ct 175 d [.ref 500, .int (nI b)] (f, g, x_HR r t, dm, n) (fun z h' => z = none ∧ h' = (va_up f 501 (y_pln (f 501) b), g, x_HR r t, dm, n)) := by
  obtain ⟨Po, hPo⟩ : ∃ Po : Option Value → xH → Prop, Po = (fun z h' => z = none ∧ h' = (va_up f 501 (y_pln (f 501) b), g, x_HR r t, dm, n)) := ⟨_, rfl⟩
  rw [← hPo]
  have lp : ∀ j k A, k + j = 464 → (∀ i, A i = if b ≤ i ∧ i < b + k then 0 else f 501 i) → x_J 175 d Po 2 [some (.ref 500), some (.int (nI b)), some (.int (nI k))] [] (va_up f 501 A, g, x_HR r t, dm, n) 0 0 := by
    intro j
    induction j with
    | zero =>
      intro k A hk hA
      obtain rfl : k = 464 := by omega
      have c3 : (nI b + Int32.ofInt 3).toNatClampNeg = b + 3 := by rw [show Int32.ofInt 3 = nI 3 from rfl, nI_add]; exact nI_clamp (by omega)
      have c4 : (nI b + Int32.ofInt 4).toNatClampNeg = b + 4 := by rw [show Int32.ofInt 4 = nI 4 from rfl, nI_add]; exact nI_clamp (by omega)
      have c7 : (nI b + (Int8.ofInt 7).toInt32).toNatClampNeg = b + 7 := by rw [show (Int8.ofInt 7).toInt32 = nI 7 from rfl, nI_add]; exact nI_clamp (by omega)
      have c11 : (nI b + (Int8.ofInt 11).toInt32).toNatClampNeg = b + 11 := by rw [show (Int8.ofInt 11).toInt32 = nI 11 from rfl, nI_add]; exact nI_clamp (by omega)
      refine x_wp_ok ok175 [2] 6 ?_
      refine And.intro (fun _ => ?_) (fun c => absurd (by decide) c)
      refine And.intro (by show x_ix (nI b + nI 3) 3168; rw [nI_add]; exact x_ix_nI (by omega) (by omega)) ?_
      refine And.intro (by show x_ix (nI b + nI 4) 3168; rw [nI_add]; exact x_ix_nI (by omega) (by omega)) ?_
      refine And.intro (by show x_ix (nI b + nI 7) 3168; rw [nI_add]; exact x_ix_nI (by omega) (by omega)) ?_
      refine And.intro (by show x_ix (nI b + nI 11) 3168; rw [nI_add]; exact x_ix_nI (by omega) (by omega)) ?_
      refine And.intro ?_ ⟨trivial, Nat.le_refl _, Nat.le_refl _⟩
      rw [hPo]
      refine ⟨rfl, ?_⟩
      show (x_up (x_up (x_up (x_up (va_up f 501 A) 501 (nI b + Int32.ofInt 3).toNatClampNeg 500) 501 (nI b + Int32.ofInt 4).toNatClampNeg 3) 501 (nI b + (Int8.ofInt 7).toInt32).toNatClampNeg 1) 501 (nI b + (Int8.ofInt 11).toInt32).toNatClampNeg (-1), g, x_HR r t, dm, n) = _
      rw [c3, c4, c7, c11, x_vu_up, x_vu_up, x_vu_up, x_vu_up]
      have e : va_up (va_up (va_up (va_up A (b + 3) 500) (b + 4) 3) (b + 7) 1) (b + 11) (-1) = y_pln (f 501) b := by
        funext i
        unfold y_pln
        by_cases h11 : i = b + 11
        · rw [h11, x_us, if_pos (by omega), if_neg (by omega), if_neg (by omega), if_neg (by omega), if_pos rfl]
        · rw [x_un h11]
          by_cases h7 : i = b + 7
          · rw [h7, x_us, if_pos (by omega), if_neg (by omega), if_neg (by omega), if_pos rfl]
          · rw [x_un h7]
            by_cases h4 : i = b + 4
            · rw [h4, x_us, if_pos (by omega), if_neg (by omega), if_pos rfl]
            · rw [x_un h4]
              by_cases h3 : i = b + 3
              · rw [h3, x_us, if_pos (by omega), if_pos rfl]
              · rw [x_un h3, hA, if_neg h3, if_neg h4, if_neg h7, if_neg h11]
      rw [e]
    | succ j ih =>
      intro k A hk hA
      refine x_wp_ok ok175 [2] 6 ?_
      refine And.intro (fun c => absurd (show nI 464 ≤ nI k from c) (nI_ge (by omega) (by decide))) (fun _ => ?_)
      refine And.intro (by show x_ix (nI b + nI k) 3168; rw [nI_add]; exact x_ix_nI (by omega) (by omega)) ?_
      have e0 := ih (k + 1) (va_up A (b + k) 0) (by omega) (fun i => by
        by_cases e : i = b + k
        · rw [e, x_us, if_pos (by omega)]
        · rw [x_un e, hA]
          by_cases h : b ≤ i ∧ i < b + k
          · rw [if_pos h, if_pos (by omega)]
          · rw [if_neg h, if_neg (by omega)])
      have ec : (nI b + nI k).toNatClampNeg = b + k := by rw [nI_add]; exact nI_clamp (by omega)
      rw [← nI_1o, ← x_vu_up, ← ec] at e0
      exact e0
  refine x_Ct_w (by decide) (Nat.le_of_ble_eq_true rfl) ok175 [2] 6 ?_
  have e0 := lp 464 0 (f 501) rfl (fun i => by rw [if_neg (by omega)])
  have e1 : va_up f 501 (f 501) = f := by
    funext c
    by_cases h : c = 501
    · rw [h, x_us]
    · rw [x_un h]
  rw [e1] at e0
  exact e0
theorem m_begins {k mo : Nat} {x : Int32} (hk : f 500 10 = nI k) (hk9 : k ≤ 900) (hmo : mo ≤ 900) (hb : ∀ j, j < k → y_byt (f 506 j)) : x_Ct 201 (d + 2) [.ref 500, .int x, .int (nI mo)] (f, g, x_HR r t, dm, n) (fun z h' => match x_wi x 0 (nI (min k mo)) with
    | false => z = some (.int 0) ∧ h' = (f, g, x_HR r t, dm, n)
    | true => z = some (.int 1) ∧ ∃ F, h' = (F, g, x_HR r t, dm, n) ∧ (∀ c, c ≠ 500 → c ≠ 507 → F c = f c) ∧ (∀ j, j < 10 ∨ j = 16 ∨ 19 < j → F 500 j = f 500 j) ∧ F 500 10 = 0 ∧ (∀ j, j < x_c x → F 507 j = f 506 j) ∧ x_RMt (F 507) (x_c x) (y_skip (F 507) (x_c x) 0) F) := by
  obtain ⟨Po, hPo⟩ : ∃ Po : Option Value → xH → Prop, Po = (fun z h' => match x_wi x 0 (nI (min k mo)) with
    | false => z = some (.int 0) ∧ h' = (f, g, x_HR r t, dm, n)
    | true => z = some (.int 1) ∧ ∃ F, h' = (F, g, x_HR r t, dm, n) ∧ (∀ c, c ≠ 500 → c ≠ 507 → F c = f c) ∧ (∀ j, j < 10 ∨ j = 16 ∨ 19 < j → F 500 j = f 500 j) ∧ F 500 10 = 0 ∧ (∀ j, j < x_c x → F 507 j = f 506 j) ∧ x_RMt (F 507) (x_c x) (y_skip (F 507) (x_c x) 0) F) := ⟨_, rfl⟩
  rw [← hPo]
  have bad : x_wi x 0 (nI (min k mo)) = false → x_J 201 (d + 2) Po 17 [some (.ref 500), some (.int x), some (.int (nI mo)), none] [] (f, g, x_HR r t, dm, n) 0 0 := by
    intro h
    refine x_wp_ok ok201 [] 6 ?_
    refine And.intro ?_ ⟨Or.inl rfl, Nat.le_refl _, Nat.le_refl _⟩
    rw [hPo, h]
    exact ⟨rfl, rfl⟩
  cases hw : x_wi x 0 (nI (min k mo)) with
  | false =>
    refine x_Ct_w (by decide) (Nat.le_of_ble_eq_true rfl) ok201 [17, 19] 6 ?_
    refine And.intro (fun _ => bad hw) (fun c0 => ?_)
    have c0 : ¬ x < 0 := c0
    refine And.intro (fun _ => bad hw) (fun c1 => ?_)
    have c1 : ¬ f 500 10 < x := c1
    refine And.intro (fun c2 => ?_) (fun _ => bad hw)
    have c2 : x ≤ nI mo := c2
    obtain ⟨j, hj, rfl⟩ := nI_of c0
    rw [hk, nI_ltI (by omega) hj] at c1
    rw [nI_leI hj (by omega)] at c2
    rw [show (0 : Int32) = nI 0 from rfl, x_wi_nI (Nat.zero_le _) (show j ≤ min k mo by omega) (by omega)] at hw
    cases hw
  | true =>
    obtain ⟨j, -, hj, rfl⟩ := x_wi_t (lo := 0) (hi := min k mo) hw (by omega) (Nat.zero_le _)
    have hc : x_c (nI j) = j := nI_clamp (by omega)
    have lp : ∀ i k' F, k' + i = j → (∀ c, c ≠ 500 → c ≠ 507 → F c = f c) → F 500 = (x_up f 500 11 (nI j)) 500 → (∀ i, i < k' → F 507 i = f 506 i) → x_J 201 (d + 2) Po 26 [some (.ref 500), some (.int (nI j)), some (.int (nI mo)), some (.int (nI k'))] [] (F, g, x_HR r t, dm, n) 0 0 := by
      intro i
      induction i with
      | zero =>
        intro k' F hk' c1 c2 c3
        obtain rfl : k' = j := by omega
        refine x_wp_ok ok201 [26] 6 ?_
        refine And.intro (fun _ => ?_) (fun c => absurd (show nI k' ≤ nI k' from nI_le (Nat.le_refl _) (by omega)) c)
        have hb7 : ∀ i, i < k' → y_byt (F 507 i) := fun i hi => by rw [c3 i hi]; exact hb i (by omega)
        refine Exists.intro _ (And.intro (m_ahead0 (p := 0) (m := k') (show F 500 11 = nI k' by rw [c2]; exact x_up_s _ _ _ _) (by omega) rfl (Nat.zero_le _) hb7) (And.intro (And.intro (Nat.zero_le _) (Nat.zero_le _)) (fun zq h' hpo => ?_)))
        obtain ⟨rfl, F1, rfl, u1, u2, u3⟩ := hpo
        refine And.intro ?_ ⟨Or.inr rfl, Nat.le_refl _, Nat.le_refl _⟩
        rw [hPo, hw]
        have e7 : F1 507 = F 507 := u1 507 (by decide)
        refine ⟨rfl, F1, rfl, fun c h1 h2 => ?_, fun j hj => ?_, ?_, fun i hi => ?_, rfl, ?_, ?_, ?_⟩
        · rw [u1 c h1, x_up_k h1, x_up_k h1, x_up_k h1, x_up_k h1, x_up_k h1]
          exact c1 c h1 h2
        · rw [u2 j (by omega), x_up_j (by omega), x_up_j (by omega), x_up_j (by omega), x_up_j (by omega), x_up_j (by omega), c2, x_up_j (by omega)]
        · rw [u2 10 (by decide)]
          rfl
        · rw [hc] at hi
          rw [e7]
          exact c3 i hi
        · rw [hc, e7]
          exact u3
        · rw [u2 18 (by decide)]
          rfl
        · rw [u2 17 (by decide)]
          rfl
      | succ i ih =>
        intro k' F hk' c1 c2 c3
        refine x_wp_ok ok201 [26] 6 ?_
        refine And.intro (fun c => absurd (show nI j ≤ nI k' from c) (nI_ge (by omega) (by omega))) (fun _ => ?_)
        refine And.intro (x_ix_nI (by omega) (by omega)) ?_
        refine And.intro (x_ix_nI (by omega) (by omega)) ?_
        have e6 : F 506 = f 506 := c1 506 (by decide) (by decide)
        have e0 := ih (k' + 1) (x_up F 507 k' (F 506 k').toInt8.toInt32) (by omega) (fun c h1 h2 => (x_up_k h2).trans (c1 c h1 h2)) ((x_up_k (by decide)).trans c2) (fun i hi => by
          by_cases e : i = k'
          · rw [e, x_up_s, e6, y_byt_n (hb k' (by omega))]
          · rw [x_up_j e]
            exact c3 i (by omega))
        have ec : (nI k').toNatClampNeg = k' := nI_clamp (by omega)
        rw [← nI_1o] at e0
        show x_J 201 (d + 2) Po 26 _ _ (x_up F 507 (nI k').toNatClampNeg (F 506 (nI k').toNatClampNeg).toInt8.toInt32, g, x_HR r t, dm, n) 0 0
        rw [ec]
        exact e0
    refine x_Ct_w (by decide) (Nat.le_of_ble_eq_true rfl) ok201 [17, 26] 6 ?_
    refine And.intro (fun c => absurd (show nI j < 0 from c) (nI_pos (by omega))) (fun _ => ?_)
    refine And.intro (fun c => absurd (show f 500 10 < nI j from c) (by rw [hk]; exact nI_nlt (by omega) (by omega))) (fun _ => ?_)
    refine And.intro (fun _ => ?_) (fun c => absurd (show nI j ≤ nI mo from nI_le (by omega) (by omega)) c)
    exact lp j 0 (x_up f 500 11 (nI j)) (by omega) (fun c h1 _ => x_up_k h1) rfl (fun i hi => absurd hi (Nat.not_lt_zero _))
end C92
