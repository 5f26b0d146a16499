/-- what a step of a life leaves: the land's view, the life's chance, months, bought -/
def x_LE (f : Nat → Nat → Int32) (g : Nat → Nat → Int64) (L e : Nat) (F : Nat → Nat → Int32) (G : Nat → Nat → Int64) (v' : xV) (ch mo bo : Nat) : Prop := v_C F G L v' ∧ G (L + 2) = g (L + 2) ∧ (∀ k, k < L ∨ L + 9 < k → k ≠ 100 → k ≠ e → F k = f k) ∧ (∀ k, k < L ∨ L + 9 < k → k ≠ 100 → G k = g k) ∧ F e 2 = nI ch ∧ F e 5 = nI mo ∧ F e 6 = nI bo ∧ ∀ j, j ≠ 2 → j ≠ 5 → j ≠ 6 → F e j = f e j
def x_PI (f : Nat → Nat → Int32) (g : Nat → Nat → Int64) (L e : Nat) (ρ : Nat → Nat → Option Nat) (dm : List Nat) (n : Nat) (w : Int32) (v' : xV) (ch mo bo : Nat) : Option Value → xH → Prop := fun q h' => ∃ F G, h' = (F, G, ρ, dm, n) ∧ q = some (.int w) ∧ x_LE f g L e F G v' ch mo bo
theorem x_oW_m1 {o : Option (Int32 × xV)} (h : ∀ z, o = some z → ¬ z.1 = -1) : x_oW (-1) o = -1 ↔ o = none := by
  cases o with
  | none => exact ⟨fun _ => rfl, fun _ => rfl⟩
  | some z => exact ⟨fun q => absurd q (h z rfl), fun q => nomatch q⟩
theorem x_oB_of {o : Option (Int32 × xV)} : (o = none → x_oB o = 0) ∧ (¬ o = none → x_oB o = 1) := by
  cases o with
  | none => exact ⟨fun _ => rfl, fun q => absurd rfl q⟩
  | some z => exact ⟨fun q => (nomatch q), fun _ => rfl⟩
section C58
variable {f : Nat → Nat → Int32} {g : Nat → Nat → Int64} {r t : Nat} {dm : List Nat} {n d N : Nat} {v : xV} {s : xR} {NL : Nat} {ρ : Nat → Nat → Option Nat}
theorem x_LE_of {L e : Nat} {F : Nat → Nat → Int32} {G : Nat → Nat → Int64} {v' : xV} {ch mo bo : Nat} (h : x_LC f g L F G v') (he : L + 9 < e) (he2 : e ≠ 100) (h2 : f e 2 = nI ch) (h5 : f e 5 = nI mo) (h6 : f e 6 = nI bo) : x_LE f g L e F G v' ch mo bo := by
  have hq := (h.2.2 e (Or.inr he) he2).1
  exact ⟨h.1, h.2.1, fun k a b _ => (h.2.2 k a b).1, fun k a b => (h.2.2 k a b).2, by rw [hq]; exact h2, by rw [hq]; exact h5, by rw [hq]; exact h6, fun j _ _ _ => by rw [hq]⟩
theorem x_PO_of {L : Nat} {c : Prop} [Decidable c] {w : Int32} {v' : xV} {q : Option Value} {h' : xH} (hC : v_C f g L v) (h : (if c then (fun q h' => q = some (.int (-1)) ∧ h' = (f, g, ρ, dm, n)) else x_PL f g L ρ dm n (.int w) v' : Option Value → xH → Prop) q h') : x_PO f g L ρ dm n v (if c then none else some (w, v')) q h' := by
  by_cases hc : c
  · rw [if_pos hc] at h ⊢
    obtain ⟨rfl, rfl⟩ := h
    exact ⟨f, g, rfl, rfl, x_LC_0 hC⟩
  · rw [if_neg hc] at h ⊢
    exact h
theorem y_ac_d {ch k : Nat} (h : 18 ≤ s 0 k) : y_ac s v ch k = some (1, v) := by
  unfold y_ac
  split <;> first | omega | rfl
theorem y_cc_d {ch k : Nat} (h : s 0 k ≠ 17) : y_cc s v ch k = ch := if_neg (fun q => h q.1)
theorem y_mo_d {ch k : Nat} (h : s 0 k ≠ 16) : y_mo s v ch k = 0 := if_neg h
theorem y_bo_d {ch k : Nat} (h : s 0 k ≠ 12) (h2 : s 0 k ≠ 17) : y_bo s v ch k = 0 := (if_neg h).trans (if_neg h2)
theorem c_lineAfterEnd_32_102 {k P K G : Nat} {R : Nat → Nat} (hSC : x_SC f 32 s NL) (hS : y_SV s NL P K G) (hk : k < NL) (he : s 0 k = 23) (hR : s 0 (s 4 k) = 22 → f 103 (s 4 k) = nI (R (s 4 k)) ∧ 1 ≤ R (s 4 k) ∧ R (s 4 k) ≤ 99) : x_Ct 46 d [.ref 102, .ref 32, .int (nI k)] (f, g, x_HR r t, dm, n) (fun q h' => q = some (.int (nI (y_ek s R k))) ∧ ∃ F, h' = (F, g, x_HR r t, dm, n) ∧ (∀ c, c ≠ 103 → F c = f c) ∧ ∀ j, f 103 j = nI (R j) → F 103 j = nI (y_eR s R k j)) := by
  have hNL := hS.1
  obtain ⟨e1, e2, e3⟩ := y_SV_end hS hk he
  obtain ⟨b, hb⟩ : ∃ b, s 4 k = b := ⟨_, rfl⟩
  have hbn := y_op_n e2
  have hwb : f 33 (s 4 k) = nI (y_wd (s 0 (s 4 k))) := (hSC.2 (s 4 k) (by omega)).1
  have hb24 := y_li_24 (hS.2.1 (s 4 k) (by omega))
  have hw24 := y_wd_24 hb24.2
  have w5 : f 38 k = nI (s 4 k) := (hSC.2 k hk).2.2.2.2 (by omega) (by omega)
  rw [hb] at e1 e2 e3 hbn hwb hb24 hw24 w5 hR
  have tail : x_J 46 d (fun q h' => q = some (.int (nI (y_ek s R k))) ∧ ∃ F, h' = (F, g, x_HR r t, dm, n) ∧ (∀ c, c ≠ 103 → F c = f c) ∧ ∀ j, f 103 j = nI (R j) → F 103 j = nI (y_eR s R k j)) 7 [some (.ref 102), some (.ref 32), some (.int (nI k)), some (.int (nI b))] [] (f, g, x_HR r t, dm, n) 0 0 := by
    refine x_wp_ok ok46 [] 6 ?_
    refine And.intro (x_ix_nI (by omega) (by omega)) ?_
    rw [nI_clamp (by omega)]
    refine And.intro (fun c => ?_) (fun c => ?_)
    · have c : f 33 b = nI 22 := c
      rw [hwb, nI_eq (by omega) (by decide)] at c
      have c : s 0 b = 22 := by
        unfold y_wd at c
        split at c <;> omega
      obtain ⟨r1, r2, r3⟩ := hR c
      have er : y_eR s R k = va_up R b (R b - 1) := by
        unfold y_eR
        rw [hb, if_pos c]
      have ev : f 103 b - 1 = nI (R b - 1) := by
        rw [r1, show (1 : Int32) = nI 1 from rfl, pk_sub r2]
      have em : x_up f 103 b (f 103 b - 1) 103 b = nI (R b - 1) := by
        rw [← ev]
        unfold x_up
        rw [x_us, x_us]
      have fr : (∀ c, c ≠ 103 → x_up f 103 b (f 103 b - 1) c = f c) ∧ ∀ j, f 103 j = nI (R j) → x_up f 103 b (f 103 b - 1) 103 j = nI (y_eR s R k j) := by
        refine ⟨fun c hc => x_un hc, fun j hj => ?_⟩
        by_cases hjb : j = b
        · rw [hjb, em, er, x_us]
        · rw [er, x_un hjb, ← hj]
          unfold x_up
          rw [x_us, x_un hjb]
      refine And.intro (x_ix_nI (by omega) (by omega)) ?_
      rw [nI_clamp (by omega)]
      refine And.intro (x_ix_nI (by omega) (by omega)) ?_
      rw [nI_clamp (by omega)]
      refine And.intro (x_ix_nI (by omega) (by omega)) ?_
      rw [nI_clamp (by omega)]
      refine And.intro (fun c3 => ?_) (fun c3 => ?_)
      · have c3 : x_up f 103 b (f 103 b - 1) 103 b ≤ nI 0 := c3
        rw [em, nI_leI (by omega) (by decide)] at c3
        have ek : y_ek s R k = k + 1 := by
          unfold y_ek
          rw [hb]
          exact if_neg (by omega)
        rw [ek, ← nI_1]
        refine And.intro ?_ ⟨trivial, Nat.le_refl _, Nat.le_refl _⟩
        exact ⟨rfl, _, rfl, fr⟩
      · have c3 : ¬ x_up f 103 b (f 103 b - 1) 103 b ≤ nI 0 := c3
        rw [em, nI_leI (by omega) (by decide)] at c3
        have ek : y_ek s R k = b + 1 := by
          unfold y_ek
          rw [hb]
          exact if_pos (by omega)
        rw [ek, ← nI_1]
        refine And.intro ?_ ⟨trivial, Nat.le_refl _, Nat.le_refl _⟩
        exact ⟨rfl, _, rfl, fr⟩
    · have c : ¬ f 33 b = nI 22 := c
      rw [hwb, nI_eq (by omega) (by decide)] at c
      have c : ¬ s 0 b = 22 := by
        intro q
        apply c
        unfold y_wd
        rw [q]
        rfl
      have ek : y_ek s R k = k + 1 := by
        unfold y_ek
        rw [hb]
        exact if_neg (by omega)
      have er : y_eR s R k = R := by
        unfold y_eR
        rw [hb]
        exact if_neg c
      rw [ek, er, ← nI_1]
      refine And.intro ?_ ⟨trivial, Nat.le_refl _, Nat.le_refl _⟩
      exact ⟨rfl, _, rfl, fun _ _ => rfl, fun _ q => q⟩
  refine x_Ct_w (by decide) (Nat.le_of_ble_eq_true rfl) ok46 [7] 6 ?_
  refine And.intro (x_ix_nI (by omega) (by omega)) ?_
  rw [nI_clamp (by omega)]
  rw [← w5] at tail
  exact tail
theorem c_lineAfterEnd_32_104 {k P K G : Nat} {R : Nat → Nat} (hSC : x_SC f 32 s NL) (hS : y_SV s NL P K G) (hk : k < NL) (he : s 0 k = 23) (hR : s 0 (s 4 k) = 22 → f 105 (s 4 k) = nI (R (s 4 k)) ∧ 1 ≤ R (s 4 k) ∧ R (s 4 k) ≤ 99) : x_Ct 46 d [.ref 104, .ref 32, .int (nI k)] (f, g, x_HR r t, dm, n) (fun q h' => q = some (.int (nI (y_ek s R k))) ∧ ∃ F, h' = (F, g, x_HR r t, dm, n) ∧ (∀ c, c ≠ 105 → F c = f c) ∧ ∀ j, f 105 j = nI (R j) → F 105 j = nI (y_eR s R k j)) := by
  have hNL := hS.1
  obtain ⟨e1, e2, e3⟩ := y_SV_end hS hk he
  obtain ⟨b, hb⟩ : ∃ b, s 4 k = b := ⟨_, rfl⟩
  have hbn := y_op_n e2
  have hwb : f 33 (s 4 k) = nI (y_wd (s 0 (s 4 k))) := (hSC.2 (s 4 k) (by omega)).1
  have hb24 := y_li_24 (hS.2.1 (s 4 k) (by omega))
  have hw24 := y_wd_24 hb24.2
  have w5 : f 38 k = nI (s 4 k) := (hSC.2 k hk).2.2.2.2 (by omega) (by omega)
  rw [hb] at e1 e2 e3 hbn hwb hb24 hw24 w5 hR
  have tail : x_J 46 d (fun q h' => q = some (.int (nI (y_ek s R k))) ∧ ∃ F, h' = (F, g, x_HR r t, dm, n) ∧ (∀ c, c ≠ 105 → F c = f c) ∧ ∀ j, f 105 j = nI (R j) → F 105 j = nI (y_eR s R k j)) 7 [some (.ref 104), some (.ref 32), some (.int (nI k)), some (.int (nI b))] [] (f, g, x_HR r t, dm, n) 0 0 := by
    refine x_wp_ok ok46 [] 6 ?_
    refine And.intro (x_ix_nI (by omega) (by omega)) ?_
    rw [nI_clamp (by omega)]
    refine And.intro (fun c => ?_) (fun c => ?_)
    · have c : f 33 b = nI 22 := c
      rw [hwb, nI_eq (by omega) (by decide)] at c
      have c : s 0 b = 22 := by
        unfold y_wd at c
        split at c <;> omega
      obtain ⟨r1, r2, r3⟩ := hR c
      have er : y_eR s R k = va_up R b (R b - 1) := by
        unfold y_eR
        rw [hb, if_pos c]
      have ev : f 105 b - 1 = nI (R b - 1) := by
        rw [r1, show (1 : Int32) = nI 1 from rfl, pk_sub r2]
      have em : x_up f 105 b (f 105 b - 1) 105 b = nI (R b - 1) := by
        rw [← ev]
        unfold x_up
        rw [x_us, x_us]
      have fr : (∀ c, c ≠ 105 → x_up f 105 b (f 105 b - 1) c = f c) ∧ ∀ j, f 105 j = nI (R j) → x_up f 105 b (f 105 b - 1) 105 j = nI (y_eR s R k j) := by
        refine ⟨fun c hc => x_un hc, fun j hj => ?_⟩
        by_cases hjb : j = b
        · rw [hjb, em, er, x_us]
        · rw [er, x_un hjb, ← hj]
          unfold x_up
          rw [x_us, x_un hjb]
      refine And.intro (x_ix_nI (by omega) (by omega)) ?_
      rw [nI_clamp (by omega)]
      refine And.intro (x_ix_nI (by omega) (by omega)) ?_
      rw [nI_clamp (by omega)]
      refine And.intro (x_ix_nI (by omega) (by omega)) ?_
      rw [nI_clamp (by omega)]
      refine And.intro (fun c3 => ?_) (fun c3 => ?_)
      · have c3 : x_up f 105 b (f 105 b - 1) 105 b ≤ nI 0 := c3
        rw [em, nI_leI (by omega) (by decide)] at c3
        have ek : y_ek s R k = k + 1 := by
          unfold y_ek
          rw [hb]
          exact if_neg (by omega)
        rw [ek, ← nI_1]
        refine And.intro ?_ ⟨trivial, Nat.le_refl _, Nat.le_refl _⟩
        exact ⟨rfl, _, rfl, fr⟩
      · have c3 : ¬ x_up f 105 b (f 105 b - 1) 105 b ≤ nI 0 := c3
        rw [em, nI_leI (by omega) (by decide)] at c3
        have ek : y_ek s R k = b + 1 := by
          unfold y_ek
          rw [hb]
          exact if_pos (by omega)
        rw [ek, ← nI_1]
        refine And.intro ?_ ⟨trivial, Nat.le_refl _, Nat.le_refl _⟩
        exact ⟨rfl, _, rfl, fr⟩
    · have c : ¬ f 33 b = nI 22 := c
      rw [hwb, nI_eq (by omega) (by decide)] at c
      have c : ¬ s 0 b = 22 := by
        intro q
        apply c
        unfold y_wd
        rw [q]
        rfl
      have ek : y_ek s R k = k + 1 := by
        unfold y_ek
        rw [hb]
        exact if_neg (by omega)
      have er : y_eR s R k = R := by
        unfold y_eR
        rw [hb]
        exact if_neg c
      rw [ek, er, ← nI_1]
      refine And.intro ?_ ⟨trivial, Nat.le_refl _, Nat.le_refl _⟩
      exact ⟨rfl, _, rfl, fun _ _ => rfl, fun _ q => q⟩
  refine x_Ct_w (by decide) (Nat.le_of_ble_eq_true rfl) ok46 [7] 6 ?_
  refine And.intro (x_ix_nI (by omega) (by omega)) ?_
  rw [nI_clamp (by omega)]
  rw [← w5] at tail
  exact tail
theorem c_lineAfterEnd_39_102 {k P K G : Nat} {R : Nat → Nat} (hSC : x_SC f 39 s NL) (hS : y_SV s NL P K G) (hk : k < NL) (he : s 0 k = 23) (hR : s 0 (s 4 k) = 22 → f 103 (s 4 k) = nI (R (s 4 k)) ∧ 1 ≤ R (s 4 k) ∧ R (s 4 k) ≤ 99) : x_Ct 46 d [.ref 102, .ref 39, .int (nI k)] (f, g, x_HR r t, dm, n) (fun q h' => q = some (.int (nI (y_ek s R k))) ∧ ∃ F, h' = (F, g, x_HR r t, dm, n) ∧ (∀ c, c ≠ 103 → F c = f c) ∧ ∀ j, f 103 j = nI (R j) → F 103 j = nI (y_eR s R k j)) := by
  have hNL := hS.1
  obtain ⟨e1, e2, e3⟩ := y_SV_end hS hk he
  obtain ⟨b, hb⟩ : ∃ b, s 4 k = b := ⟨_, rfl⟩
  have hbn := y_op_n e2
  have hwb : f 40 (s 4 k) = nI (y_wd (s 0 (s 4 k))) := (hSC.2 (s 4 k) (by omega)).1
  have hb24 := y_li_24 (hS.2.1 (s 4 k) (by omega))
  have hw24 := y_wd_24 hb24.2
  have w5 : f 45 k = nI (s 4 k) := (hSC.2 k hk).2.2.2.2 (by omega) (by omega)
  rw [hb] at e1 e2 e3 hbn hwb hb24 hw24 w5 hR
  have tail : x_J 46 d (fun q h' => q = some (.int (nI (y_ek s R k))) ∧ ∃ F, h' = (F, g, x_HR r t, dm, n) ∧ (∀ c, c ≠ 103 → F c = f c) ∧ ∀ j, f 103 j = nI (R j) → F 103 j = nI (y_eR s R k j)) 7 [some (.ref 102), some (.ref 39), some (.int (nI k)), some (.int (nI b))] [] (f, g, x_HR r t, dm, n) 0 0 := by
    refine x_wp_ok ok46 [] 6 ?_
    refine And.intro (x_ix_nI (by omega) (by omega)) ?_
    rw [nI_clamp (by omega)]
    refine And.intro (fun c => ?_) (fun c => ?_)
    · have c : f 40 b = nI 22 := c
      rw [hwb, nI_eq (by omega) (by decide)] at c
      have c : s 0 b = 22 := by
        unfold y_wd at c
        split at c <;> omega
      obtain ⟨r1, r2, r3⟩ := hR c
      have er : y_eR s R k = va_up R b (R b - 1) := by
        unfold y_eR
        rw [hb, if_pos c]
      have ev : f 103 b - 1 = nI (R b - 1) := by
        rw [r1, show (1 : Int32) = nI 1 from rfl, pk_sub r2]
      have em : x_up f 103 b (f 103 b - 1) 103 b = nI (R b - 1) := by
        rw [← ev]
        unfold x_up
        rw [x_us, x_us]
      have fr : (∀ c, c ≠ 103 → x_up f 103 b (f 103 b - 1) c = f c) ∧ ∀ j, f 103 j = nI (R j) → x_up f 103 b (f 103 b - 1) 103 j = nI (y_eR s R k j) := by
        refine ⟨fun c hc => x_un hc, fun j hj => ?_⟩
        by_cases hjb : j = b
        · rw [hjb, em, er, x_us]
        · rw [er, x_un hjb, ← hj]
          unfold x_up
          rw [x_us, x_un hjb]
      refine And.intro (x_ix_nI (by omega) (by omega)) ?_
      rw [nI_clamp (by omega)]
      refine And.intro (x_ix_nI (by omega) (by omega)) ?_
      rw [nI_clamp (by omega)]
      refine And.intro (x_ix_nI (by omega) (by omega)) ?_
      rw [nI_clamp (by omega)]
      refine And.intro (fun c3 => ?_) (fun c3 => ?_)
      · have c3 : x_up f 103 b (f 103 b - 1) 103 b ≤ nI 0 := c3
        rw [em, nI_leI (by omega) (by decide)] at c3
        have ek : y_ek s R k = k + 1 := by
          unfold y_ek
          rw [hb]
          exact if_neg (by omega)
        rw [ek, ← nI_1]
        refine And.intro ?_ ⟨trivial, Nat.le_refl _, Nat.le_refl _⟩
        exact ⟨rfl, _, rfl, fr⟩
      · have c3 : ¬ x_up f 103 b (f 103 b - 1) 103 b ≤ nI 0 := c3
        rw [em, nI_leI (by omega) (by decide)] at c3
        have ek : y_ek s R k = b + 1 := by
          unfold y_ek
          rw [hb]
          exact if_pos (by omega)
        rw [ek, ← nI_1]
        refine And.intro ?_ ⟨trivial, Nat.le_refl _, Nat.le_refl _⟩
        exact ⟨rfl, _, rfl, fr⟩
    · have c : ¬ f 40 b = nI 22 := c
      rw [hwb, nI_eq (by omega) (by decide)] at c
      have c : ¬ s 0 b = 22 := by
        intro q
        apply c
        unfold y_wd
        rw [q]
        rfl
      have ek : y_ek s R k = k + 1 := by
        unfold y_ek
        rw [hb]
        exact if_neg (by omega)
      have er : y_eR s R k = R := by
        unfold y_eR
        rw [hb]
        exact if_neg c
      rw [ek, er, ← nI_1]
      refine And.intro ?_ ⟨trivial, Nat.le_refl _, Nat.le_refl _⟩
      exact ⟨rfl, _, rfl, fun _ _ => rfl, fun _ q => q⟩
  refine x_Ct_w (by decide) (Nat.le_of_ble_eq_true rfl) ok46 [7] 6 ?_
  refine And.intro (x_ix_nI (by omega) (by omega)) ?_
  rw [nI_clamp (by omega)]
  rw [← w5] at tail
  exact tail
theorem c_lineAfterEnd_39_104 {k P K G : Nat} {R : Nat → Nat} (hSC : x_SC f 39 s NL) (hS : y_SV s NL P K G) (hk : k < NL) (he : s 0 k = 23) (hR : s 0 (s 4 k) = 22 → f 105 (s 4 k) = nI (R (s 4 k)) ∧ 1 ≤ R (s 4 k) ∧ R (s 4 k) ≤ 99) : x_Ct 46 d [.ref 104, .ref 39, .int (nI k)] (f, g, x_HR r t, dm, n) (fun q h' => q = some (.int (nI (y_ek s R k))) ∧ ∃ F, h' = (F, g, x_HR r t, dm, n) ∧ (∀ c, c ≠ 105 → F c = f c) ∧ ∀ j, f 105 j = nI (R j) → F 105 j = nI (y_eR s R k j)) := by
  have hNL := hS.1
  obtain ⟨e1, e2, e3⟩ := y_SV_end hS hk he
  obtain ⟨b, hb⟩ : ∃ b, s 4 k = b := ⟨_, rfl⟩
  have hbn := y_op_n e2
  have hwb : f 40 (s 4 k) = nI (y_wd (s 0 (s 4 k))) := (hSC.2 (s 4 k) (by omega)).1
  have hb24 := y_li_24 (hS.2.1 (s 4 k) (by omega))
  have hw24 := y_wd_24 hb24.2
  have w5 : f 45 k = nI (s 4 k) := (hSC.2 k hk).2.2.2.2 (by omega) (by omega)
  rw [hb] at e1 e2 e3 hbn hwb hb24 hw24 w5 hR
  have tail : x_J 46 d (fun q h' => q = some (.int (nI (y_ek s R k))) ∧ ∃ F, h' = (F, g, x_HR r t, dm, n) ∧ (∀ c, c ≠ 105 → F c = f c) ∧ ∀ j, f 105 j = nI (R j) → F 105 j = nI (y_eR s R k j)) 7 [some (.ref 104), some (.ref 39), some (.int (nI k)), some (.int (nI b))] [] (f, g, x_HR r t, dm, n) 0 0 := by
    refine x_wp_ok ok46 [] 6 ?_
    refine And.intro (x_ix_nI (by omega) (by omega)) ?_
    rw [nI_clamp (by omega)]
    refine And.intro (fun c => ?_) (fun c => ?_)
    · have c : f 40 b = nI 22 := c
      rw [hwb, nI_eq (by omega) (by decide)] at c
      have c : s 0 b = 22 := by
        unfold y_wd at c
        split at c <;> omega
      obtain ⟨r1, r2, r3⟩ := hR c
      have er : y_eR s R k = va_up R b (R b - 1) := by
        unfold y_eR
        rw [hb, if_pos c]
      have ev : f 105 b - 1 = nI (R b - 1) := by
        rw [r1, show (1 : Int32) = nI 1 from rfl, pk_sub r2]
      have em : x_up f 105 b (f 105 b - 1) 105 b = nI (R b - 1) := by
        rw [← ev]
        unfold x_up
        rw [x_us, x_us]
      have fr : (∀ c, c ≠ 105 → x_up f 105 b (f 105 b - 1) c = f c) ∧ ∀ j, f 105 j = nI (R j) → x_up f 105 b (f 105 b - 1) 105 j = nI (y_eR s R k j) := by
        refine ⟨fun c hc => x_un hc, fun j hj => ?_⟩
        by_cases hjb : j = b
        · rw [hjb, em, er, x_us]
        · rw [er, x_un hjb, ← hj]
          unfold x_up
          rw [x_us, x_un hjb]
      refine And.intro (x_ix_nI (by omega) (by omega)) ?_
      rw [nI_clamp (by omega)]
      refine And.intro (x_ix_nI (by omega) (by omega)) ?_
      rw [nI_clamp (by omega)]
      refine And.intro (x_ix_nI (by omega) (by omega)) ?_
      rw [nI_clamp (by omega)]
      refine And.intro (fun c3 => ?_) (fun c3 => ?_)
      · have c3 : x_up f 105 b (f 105 b - 1) 105 b ≤ nI 0 := c3
        rw [em, nI_leI (by omega) (by decide)] at c3
        have ek : y_ek s R k = k + 1 := by
          unfold y_ek
          rw [hb]
          exact if_neg (by omega)
        rw [ek, ← nI_1]
        refine And.intro ?_ ⟨trivial, Nat.le_refl _, Nat.le_refl _⟩
        exact ⟨rfl, _, rfl, fr⟩
      · have c3 : ¬ x_up f 105 b (f 105 b - 1) 105 b ≤ nI 0 := c3
        rw [em, nI_leI (by omega) (by decide)] at c3
        have ek : y_ek s R k = b + 1 := by
          unfold y_ek
          rw [hb]
          exact if_pos (by omega)
        rw [ek, ← nI_1]
        refine And.intro ?_ ⟨trivial, Nat.le_refl _, Nat.le_refl _⟩
        exact ⟨rfl, _, rfl, fr⟩
    · have c : ¬ f 40 b = nI 22 := c
      rw [hwb, nI_eq (by omega) (by decide)] at c
      have c : ¬ s 0 b = 22 := by
        intro q
        apply c
        unfold y_wd
        rw [q]
        rfl
      have ek : y_ek s R k = k + 1 := by
        unfold y_ek
        rw [hb]
        exact if_neg (by omega)
      have er : y_eR s R k = R := by
        unfold y_eR
        rw [hb]
        exact if_neg c
      rw [ek, er, ← nI_1]
      refine And.intro ?_ ⟨trivial, Nat.le_refl _, Nat.le_refl _⟩
      exact ⟨rfl, _, rfl, fun _ _ => rfl, fun _ q => q⟩
  refine x_Ct_w (by decide) (Nat.le_of_ble_eq_true rfl) ok46 [7] 6 ?_
  refine And.intro (x_ix_nI (by omega) (by omega)) ?_
  rw [nI_clamp (by omega)]
  rw [← w5] at tail
  exact tail
theorem c_lineAfterStep_12_32_102 {k : Nat} {R : Nat → Nat} (hC : v_C f g 12 v) (hB : v_B v) (hSC : x_SC f 32 s NL) (hS : y_SV s NL (v 2 0 0) (v 0 0 0) (v 1 0 0)) (hk : k < NL) (he : s 0 k ≠ 23) : x_Ct 47 (d + 4) [.ref 102, .ref 12, .ref 32, .int (nI k)] (f, g, x_HR r t, dm, n) (fun q h' => q = some (.int (if s 0 k = 24 then -1 else nI (y_nx s NL v k))) ∧ ∃ F, h' = (F, g, x_HR r t, dm, n) ∧ (∀ c, c ≠ 103 → F c = f c) ∧ ∀ j, (f 103 j = nI (R j) ∨ (j = k ∧ s 0 k = 22)) → F 103 j = nI (y_sR s R k j)) := by
  have hNL := hS.1
  have hli := hS.2.1 k hk
  have h24 := y_li_24 hli
  have hw24 := y_wd_24 h24.2
  obtain ⟨w1, w2, w3, w4, w5⟩ := hSC.2 k hk
  have w1 : f 33 k = nI (y_wd (s 0 k)) := w1
  have tail : x_J 47 (d + 4) (fun q h' => q = some (.int (if s 0 k = 24 then -1 else nI (y_nx s NL v k))) ∧ ∃ F, h' = (F, g, x_HR r t, dm, n) ∧ (∀ c, c ≠ 103 → F c = f c) ∧ ∀ j, (f 103 j = nI (R j) ∨ (j = k ∧ s 0 k = 22)) → F 103 j = nI (y_sR s R k j)) 8 [some (.ref 102), some (.ref 12), some (.ref 32), some (.int (nI k)), some (.int (nI (y_wd (s 0 k))))] [] (f, g, x_HR r t, dm, n) 0 0 := by
    by_cases q24 : s 0 k = 24
    · rw [show y_wd (s 0 k) = 24 by rw [q24]; rfl, if_pos q24]
      refine x_wp_ok ok47 [] 6 ?_
      refine And.intro (fun c => absurd rfl c) (fun _ => ?_)
      refine And.intro ?_ ⟨trivial, Nat.le_refl _, Nat.le_refl _⟩
      have er : y_sR s R k = R := if_neg (by omega)
      exact ⟨rfl, _, rfl, fun _ _ => rfl, fun j q => by rw [er]; exact q.resolve_right (by omega)⟩
    · rw [if_neg q24]
      by_cases q22 : s 0 k = 22
      · have w4 : f 36 k = nI (s 3 k) := w4 (by omega) (by omega) (by omega)
        have er : y_sR s R k = va_up R k (s 3 k) := if_pos q22
        have en : y_nx s NL v k = k + 1 := by
          unfold y_nx
          rw [if_neg q24, if_neg]
          intro q
          have := of_decide_eq_true q.1
          omega
        rw [show y_wd (s 0 k) = 22 by rw [q22]; rfl, en, ← nI_1]
        refine x_wp_ok ok47 [] 6 ?_
        refine And.intro (fun _ => ?_) (fun c => absurd c (by decide))
        refine And.intro (fun c => absurd rfl c) (fun _ => ?_)
        refine And.intro (x_ix_nI (by omega) (by omega)) ?_
        rw [nI_clamp (by omega)]
        refine And.intro (x_ix_nI (by omega) (by omega)) ?_
        rw [nI_clamp (by omega)]
        refine And.intro (fun _ => ?_) (fun c => absurd c (by decide))
        refine And.intro ?_ ⟨trivial, Nat.le_refl _, Nat.le_refl _⟩
        refine ⟨rfl, _, rfl, fun _ hc => x_un hc, fun j q => ?_⟩
        rw [er]
        by_cases hj : j = k
        · rw [hj, x_us, ← w4]
          unfold x_up
          rw [x_us, x_us]
        · rw [x_un hj, ← q.resolve_right (fun q => hj q.1)]
          unfold x_up
          rw [x_us, x_un hj]
      · have er : y_sR s R k = R := if_neg q22
        by_cases qw : 18 ≤ s 0 k ∧ s 0 k ≤ 20
        · have w5 : f 38 k = nI (s 4 k) := w5 (by omega) (by omega)
          have hwn : y_wn s k = true := decide_eq_true (by omega)
          have cl := c_holdsTrue_12_32 (d := d) (r := r) (t := t) (dm := dm) (n := n) hC hB hSC hNL hk hli qw
          rw [show y_wd (s 0 k) = 18 from if_pos qw]
          refine x_wp_ok ok47 [] 6 ?_
          refine And.intro (fun _ => ?_) (fun c => absurd c (by decide))
          refine And.intro (fun _ => ?_) (fun c => absurd c (by decide))
          refine And.intro (fun c => absurd rfl c) (fun _ => ?_)
          refine Exists.intro _ (And.intro cl (And.intro (And.intro (Nat.zero_le _) (Nat.zero_le _)) (fun q h' hpo => ?_)))
          obtain ⟨rfl, rfl⟩ := hpo
          cases ht : y_te s v k with
          | false =>
            have en : y_nx s NL v k = s 4 k + 1 := by
              unfold y_nx
              rw [if_neg q24, if_pos ⟨hwn, ht⟩]
            rw [en, ← nI_1, ← w5]
            refine And.intro (fun c => absurd rfl c) (fun _ => ?_)
            refine And.intro (x_ix_nI (by omega) (by omega)) ?_
            rw [nI_clamp (by omega)]
            refine And.intro ?_ ⟨trivial, Nat.le_refl _, Nat.le_refl _⟩
            exact ⟨rfl, _, rfl, fun _ _ => rfl, fun j q => by rw [er]; exact q.resolve_right (by omega)⟩
          | true =>
            have en : y_nx s NL v k = k + 1 := by
              unfold y_nx
              rw [if_neg q24, if_neg (fun q => absurd (ht.symm.trans q.2) (by decide))]
            rw [en, ← nI_1]
            refine And.intro (fun _ => ?_) (fun c => absurd (show (1 : Int32) = 0 from c) (by decide))
            refine And.intro ?_ ⟨trivial, Nat.le_refl _, Nat.le_refl _⟩
            exact ⟨rfl, _, rfl, fun _ _ => rfl, fun j q => by rw [er]; exact q.resolve_right (by omega)⟩
        · have hwn : ¬ y_wn s k = true := by
            intro q
            have := of_decide_eq_true q
            omega
          have en : y_nx s NL v k = k + 1 := by
            unfold y_nx
            rw [if_neg q24, if_neg (fun q => hwn q.1)]
          rw [show y_wd (s 0 k) = s 0 k from if_neg qw, en, ← nI_1]
          refine x_wp_ok ok47 [] 6 ?_
          refine And.intro (fun c1 => ?_) (fun c1 => ?_)
          · refine And.intro (fun c2 => ?_) (fun c2 => ?_)
            · refine And.intro (fun c3 => ?_) (fun c3 => ?_)
              · refine And.intro ?_ ⟨trivial, Nat.le_refl _, Nat.le_refl _⟩
                exact ⟨rfl, _, rfl, fun _ _ => rfl, fun j q => by rw [er]; exact q.resolve_right (by omega)⟩
              · have c3 : nI (s 0 k) = nI 18 := c3
                rw [nI_eq (by omega) (by decide)] at c3
                omega
            · have c2 : nI (s 0 k) = nI 22 := c2
              rw [nI_eq (by omega) (by decide)] at c2
              omega
          · have c1 : nI (s 0 k) = nI 24 := c1
            rw [nI_eq (by omega) (by decide)] at c1
            omega
  refine x_Ct_w (by decide) (Nat.le_of_ble_eq_true rfl) ok47 [8] 6 ?_
  refine And.intro (x_ix_nI (by omega) (by omega)) ?_
  rw [nI_clamp (by omega)]
  rw [← w1] at tail
  exact tail
theorem c_lineAfterStep_22_32_102 {k : Nat} {R : Nat → Nat} (hC : v_C f g 22 v) (hB : v_B v) (hSC : x_SC f 32 s NL) (hS : y_SV s NL (v 2 0 0) (v 0 0 0) (v 1 0 0)) (hk : k < NL) (he : s 0 k ≠ 23) : x_Ct 47 (d + 4) [.ref 102, .ref 22, .ref 32, .int (nI k)] (f, g, x_HR r t, dm, n) (fun q h' => q = some (.int (if s 0 k = 24 then -1 else nI (y_nx s NL v k))) ∧ ∃ F, h' = (F, g, x_HR r t, dm, n) ∧ (∀ c, c ≠ 103 → F c = f c) ∧ ∀ j, (f 103 j = nI (R j) ∨ (j = k ∧ s 0 k = 22)) → F 103 j = nI (y_sR s R k j)) := by
  have hNL := hS.1
  have hli := hS.2.1 k hk
  have h24 := y_li_24 hli
  have hw24 := y_wd_24 h24.2
  obtain ⟨w1, w2, w3, w4, w5⟩ := hSC.2 k hk
  have w1 : f 33 k = nI (y_wd (s 0 k)) := w1
  have tail : x_J 47 (d + 4) (fun q h' => q = some (.int (if s 0 k = 24 then -1 else nI (y_nx s NL v k))) ∧ ∃ F, h' = (F, g, x_HR r t, dm, n) ∧ (∀ c, c ≠ 103 → F c = f c) ∧ ∀ j, (f 103 j = nI (R j) ∨ (j = k ∧ s 0 k = 22)) → F 103 j = nI (y_sR s R k j)) 8 [some (.ref 102), some (.ref 22), some (.ref 32), some (.int (nI k)), some (.int (nI (y_wd (s 0 k))))] [] (f, g, x_HR r t, dm, n) 0 0 := by
    by_cases q24 : s 0 k = 24
    · rw [show y_wd (s 0 k) = 24 by rw [q24]; rfl, if_pos q24]
      refine x_wp_ok ok47 [] 6 ?_
      refine And.intro (fun c => absurd rfl c) (fun _ => ?_)
      refine And.intro ?_ ⟨trivial, Nat.le_refl _, Nat.le_refl _⟩
      have er : y_sR s R k = R := if_neg (by omega)
      exact ⟨rfl, _, rfl, fun _ _ => rfl, fun j q => by rw [er]; exact q.resolve_right (by omega)⟩
    · rw [if_neg q24]
      by_cases q22 : s 0 k = 22
      · have w4 : f 36 k = nI (s 3 k) := w4 (by omega) (by omega) (by omega)
        have er : y_sR s R k = va_up R k (s 3 k) := if_pos q22
        have en : y_nx s NL v k = k + 1 := by
          unfold y_nx
          rw [if_neg q24, if_neg]
          intro q
          have := of_decide_eq_true q.1
          omega
        rw [show y_wd (s 0 k) = 22 by rw [q22]; rfl, en, ← nI_1]
        refine x_wp_ok ok47 [] 6 ?_
        refine And.intro (fun _ => ?_) (fun c => absurd c (by decide))
        refine And.intro (fun c => absurd rfl c) (fun _ => ?_)
        refine And.intro (x_ix_nI (by omega) (by omega)) ?_
        rw [nI_clamp (by omega)]
        refine And.intro (x_ix_nI (by omega) (by omega)) ?_
        rw [nI_clamp (by omega)]
        refine And.intro (fun _ => ?_) (fun c => absurd c (by decide))
        refine And.intro ?_ ⟨trivial, Nat.le_refl _, Nat.le_refl _⟩
        refine ⟨rfl, _, rfl, fun _ hc => x_un hc, fun j q => ?_⟩
        rw [er]
        by_cases hj : j = k
        · rw [hj, x_us, ← w4]
          unfold x_up
          rw [x_us, x_us]
        · rw [x_un hj, ← q.resolve_right (fun q => hj q.1)]
          unfold x_up
          rw [x_us, x_un hj]
      · have er : y_sR s R k = R := if_neg q22
        by_cases qw : 18 ≤ s 0 k ∧ s 0 k ≤ 20
        · have w5 : f 38 k = nI (s 4 k) := w5 (by omega) (by omega)
          have hwn : y_wn s k = true := decide_eq_true (by omega)
          have cl := c_holdsTrue_22_32 (d := d) (r := r) (t := t) (dm := dm) (n := n) hC hB hSC hNL hk hli qw
          rw [show y_wd (s 0 k) = 18 from if_pos qw]
          refine x_wp_ok ok47 [] 6 ?_
          refine And.intro (fun _ => ?_) (fun c => absurd c (by decide))
          refine And.intro (fun _ => ?_) (fun c => absurd c (by decide))
          refine And.intro (fun c => absurd rfl c) (fun _ => ?_)
          refine Exists.intro _ (And.intro cl (And.intro (And.intro (Nat.zero_le _) (Nat.zero_le _)) (fun q h' hpo => ?_)))
          obtain ⟨rfl, rfl⟩ := hpo
          cases ht : y_te s v k with
          | false =>
            have en : y_nx s NL v k = s 4 k + 1 := by
              unfold y_nx
              rw [if_neg q24, if_pos ⟨hwn, ht⟩]
            rw [en, ← nI_1, ← w5]
            refine And.intro (fun c => absurd rfl c) (fun _ => ?_)
            refine And.intro (x_ix_nI (by omega) (by omega)) ?_
            rw [nI_clamp (by omega)]
            refine And.intro ?_ ⟨trivial, Nat.le_refl _, Nat.le_refl _⟩
            exact ⟨rfl, _, rfl, fun _ _ => rfl, fun j q => by rw [er]; exact q.resolve_right (by omega)⟩
          | true =>
            have en : y_nx s NL v k = k + 1 := by
              unfold y_nx
              rw [if_neg q24, if_neg (fun q => absurd (ht.symm.trans q.2) (by decide))]
            rw [en, ← nI_1]
            refine And.intro (fun _ => ?_) (fun c => absurd (show (1 : Int32) = 0 from c) (by decide))
            refine And.intro ?_ ⟨trivial, Nat.le_refl _, Nat.le_refl _⟩
            exact ⟨rfl, _, rfl, fun _ _ => rfl, fun j q => by rw [er]; exact q.resolve_right (by omega)⟩
        · have hwn : ¬ y_wn s k = true := by
            intro q
            have := of_decide_eq_true q
            omega
          have en : y_nx s NL v k = k + 1 := by
            unfold y_nx
            rw [if_neg q24, if_neg (fun q => hwn q.1)]
          rw [show y_wd (s 0 k) = s 0 k from if_neg qw, en, ← nI_1]
          refine x_wp_ok ok47 [] 6 ?_
          refine And.intro (fun c1 => ?_) (fun c1 => ?_)
          · refine And.intro (fun c2 => ?_) (fun c2 => ?_)
            · refine And.intro (fun c3 => ?_) (fun c3 => ?_)
              · refine And.intro ?_ ⟨trivial, Nat.le_refl _, Nat.le_refl _⟩
                exact ⟨rfl, _, rfl, fun _ _ => rfl, fun j q => by rw [er]; exact q.resolve_right (by omega)⟩
              · have c3 : nI (s 0 k) = nI 18 := c3
                rw [nI_eq (by omega) (by decide)] at c3
                omega
            · have c2 : nI (s 0 k) = nI 22 := c2
              rw [nI_eq (by omega) (by decide)] at c2
              omega
          · have c1 : nI (s 0 k) = nI 24 := c1
            rw [nI_eq (by omega) (by decide)] at c1
            omega
  refine x_Ct_w (by decide) (Nat.le_of_ble_eq_true rfl) ok47 [8] 6 ?_
  refine And.intro (x_ix_nI (by omega) (by omega)) ?_
  rw [nI_clamp (by omega)]
  rw [← w1] at tail
  exact tail
theorem c_lineAfterStep_12_32_104 {k : Nat} {R : Nat → Nat} (hC : v_C f g 12 v) (hB : v_B v) (hSC : x_SC f 32 s NL) (hS : y_SV s NL (v 2 0 0) (v 0 0 0) (v 1 0 0)) (hk : k < NL) (he : s 0 k ≠ 23) : x_Ct 47 (d + 4) [.ref 104, .ref 12, .ref 32, .int (nI k)] (f, g, x_HR r t, dm, n) (fun q h' => q = some (.int (if s 0 k = 24 then -1 else nI (y_nx s NL v k))) ∧ ∃ F, h' = (F, g, x_HR r t, dm, n) ∧ (∀ c, c ≠ 105 → F c = f c) ∧ ∀ j, (f 105 j = nI (R j) ∨ (j = k ∧ s 0 k = 22)) → F 105 j = nI (y_sR s R k j)) := by
  have hNL := hS.1
  have hli := hS.2.1 k hk
  have h24 := y_li_24 hli
  have hw24 := y_wd_24 h24.2
  obtain ⟨w1, w2, w3, w4, w5⟩ := hSC.2 k hk
  have w1 : f 33 k = nI (y_wd (s 0 k)) := w1
  have tail : x_J 47 (d + 4) (fun q h' => q = some (.int (if s 0 k = 24 then -1 else nI (y_nx s NL v k))) ∧ ∃ F, h' = (F, g, x_HR r t, dm, n) ∧ (∀ c, c ≠ 105 → F c = f c) ∧ ∀ j, (f 105 j = nI (R j) ∨ (j = k ∧ s 0 k = 22)) → F 105 j = nI (y_sR s R k j)) 8 [some (.ref 104), some (.ref 12), some (.ref 32), some (.int (nI k)), some (.int (nI (y_wd (s 0 k))))] [] (f, g, x_HR r t, dm, n) 0 0 := by
    by_cases q24 : s 0 k = 24
    · rw [show y_wd (s 0 k) = 24 by rw [q24]; rfl, if_pos q24]
      refine x_wp_ok ok47 [] 6 ?_
      refine And.intro (fun c => absurd rfl c) (fun _ => ?_)
      refine And.intro ?_ ⟨trivial, Nat.le_refl _, Nat.le_refl _⟩
      have er : y_sR s R k = R := if_neg (by omega)
      exact ⟨rfl, _, rfl, fun _ _ => rfl, fun j q => by rw [er]; exact q.resolve_right (by omega)⟩
    · rw [if_neg q24]
      by_cases q22 : s 0 k = 22
      · have w4 : f 36 k = nI (s 3 k) := w4 (by omega) (by omega) (by omega)
        have er : y_sR s R k = va_up R k (s 3 k) := if_pos q22
        have en : y_nx s NL v k = k + 1 := by
          unfold y_nx
          rw [if_neg q24, if_neg]
          intro q
          have := of_decide_eq_true q.1
          omega
        rw [show y_wd (s 0 k) = 22 by rw [q22]; rfl, en, ← nI_1]
        refine x_wp_ok ok47 [] 6 ?_
        refine And.intro (fun _ => ?_) (fun c => absurd c (by decide))
        refine And.intro (fun c => absurd rfl c) (fun _ => ?_)
        refine And.intro (x_ix_nI (by omega) (by omega)) ?_
        rw [nI_clamp (by omega)]
        refine And.intro (x_ix_nI (by omega) (by omega)) ?_
        rw [nI_clamp (by omega)]
        refine And.intro (fun _ => ?_) (fun c => absurd c (by decide))
        refine And.intro ?_ ⟨trivial, Nat.le_refl _, Nat.le_refl _⟩
        refine ⟨rfl, _, rfl, fun _ hc => x_un hc, fun j q => ?_⟩
        rw [er]
        by_cases hj : j = k
        · rw [hj, x_us, ← w4]
          unfold x_up
          rw [x_us, x_us]
        · rw [x_un hj, ← q.resolve_right (fun q => hj q.1)]
          unfold x_up
          rw [x_us, x_un hj]
      · have er : y_sR s R k = R := if_neg q22
        by_cases qw : 18 ≤ s 0 k ∧ s 0 k ≤ 20
        · have w5 : f 38 k = nI (s 4 k) := w5 (by omega) (by omega)
          have hwn : y_wn s k = true := decide_eq_true (by omega)
          have cl := c_holdsTrue_12_32 (d := d) (r := r) (t := t) (dm := dm) (n := n) hC hB hSC hNL hk hli qw
          rw [show y_wd (s 0 k) = 18 from if_pos qw]
          refine x_wp_ok ok47 [] 6 ?_
          refine And.intro (fun _ => ?_) (fun c => absurd c (by decide))
          refine And.intro (fun _ => ?_) (fun c => absurd c (by decide))
          refine And.intro (fun c => absurd rfl c) (fun _ => ?_)
          refine Exists.intro _ (And.intro cl (And.intro (And.intro (Nat.zero_le _) (Nat.zero_le _)) (fun q h' hpo => ?_)))
          obtain ⟨rfl, rfl⟩ := hpo
          cases ht : y_te s v k with
          | false =>
            have en : y_nx s NL v k = s 4 k + 1 := by
              unfold y_nx
              rw [if_neg q24, if_pos ⟨hwn, ht⟩]
            rw [en, ← nI_1, ← w5]
            refine And.intro (fun c => absurd rfl c) (fun _ => ?_)
            refine And.intro (x_ix_nI (by omega) (by omega)) ?_
            rw [nI_clamp (by omega)]
            refine And.intro ?_ ⟨trivial, Nat.le_refl _, Nat.le_refl _⟩
            exact ⟨rfl, _, rfl, fun _ _ => rfl, fun j q => by rw [er]; exact q.resolve_right (by omega)⟩
          | true =>
            have en : y_nx s NL v k = k + 1 := by
              unfold y_nx
              rw [if_neg q24, if_neg (fun q => absurd (ht.symm.trans q.2) (by decide))]
            rw [en, ← nI_1]
            refine And.intro (fun _ => ?_) (fun c => absurd (show (1 : Int32) = 0 from c) (by decide))
            refine And.intro ?_ ⟨trivial, Nat.le_refl _, Nat.le_refl _⟩
            exact ⟨rfl, _, rfl, fun _ _ => rfl, fun j q => by rw [er]; exact q.resolve_right (by omega)⟩
        · have hwn : ¬ y_wn s k = true := by
            intro q
            have := of_decide_eq_true q
            omega
          have en : y_nx s NL v k = k + 1 := by
            unfold y_nx
            rw [if_neg q24, if_neg (fun q => hwn q.1)]
          rw [show y_wd (s 0 k) = s 0 k from if_neg qw, en, ← nI_1]
          refine x_wp_ok ok47 [] 6 ?_
          refine And.intro (fun c1 => ?_) (fun c1 => ?_)
          · refine And.intro (fun c2 => ?_) (fun c2 => ?_)
            · refine And.intro (fun c3 => ?_) (fun c3 => ?_)
              · refine And.intro ?_ ⟨trivial, Nat.le_refl _, Nat.le_refl _⟩
                exact ⟨rfl, _, rfl, fun _ _ => rfl, fun j q => by rw [er]; exact q.resolve_right (by omega)⟩
              · have c3 : nI (s 0 k) = nI 18 := c3
                rw [nI_eq (by omega) (by decide)] at c3
                omega
            · have c2 : nI (s 0 k) = nI 22 := c2
              rw [nI_eq (by omega) (by decide)] at c2
              omega
          · have c1 : nI (s 0 k) = nI 24 := c1
            rw [nI_eq (by omega) (by decide)] at c1
            omega
  refine x_Ct_w (by decide) (Nat.le_of_ble_eq_true rfl) ok47 [8] 6 ?_
  refine And.intro (x_ix_nI (by omega) (by omega)) ?_
  rw [nI_clamp (by omega)]
  rw [← w1] at tail
  exact tail
theorem c_lineAfterStep_22_32_104 {k : Nat} {R : Nat → Nat} (hC : v_C f g 22 v) (hB : v_B v) (hSC : x_SC f 32 s NL) (hS : y_SV s NL (v 2 0 0) (v 0 0 0) (v 1 0 0)) (hk : k < NL) (he : s 0 k ≠ 23) : x_Ct 47 (d + 4) [.ref 104, .ref 22, .ref 32, .int (nI k)] (f, g, x_HR r t, dm, n) (fun q h' => q = some (.int (if s 0 k = 24 then -1 else nI (y_nx s NL v k))) ∧ ∃ F, h' = (F, g, x_HR r t, dm, n) ∧ (∀ c, c ≠ 105 → F c = f c) ∧ ∀ j, (f 105 j = nI (R j) ∨ (j = k ∧ s 0 k = 22)) → F 105 j = nI (y_sR s R k j)) := by
  have hNL := hS.1
  have hli := hS.2.1 k hk
  have h24 := y_li_24 hli
  have hw24 := y_wd_24 h24.2
  obtain ⟨w1, w2, w3, w4, w5⟩ := hSC.2 k hk
  have w1 : f 33 k = nI (y_wd (s 0 k)) := w1
  have tail : x_J 47 (d + 4) (fun q h' => q = some (.int (if s 0 k = 24 then -1 else nI (y_nx s NL v k))) ∧ ∃ F, h' = (F, g, x_HR r t, dm, n) ∧ (∀ c, c ≠ 105 → F c = f c) ∧ ∀ j, (f 105 j = nI (R j) ∨ (j = k ∧ s 0 k = 22)) → F 105 j = nI (y_sR s R k j)) 8 [some (.ref 104), some (.ref 22), some (.ref 32), some (.int (nI k)), some (.int (nI (y_wd (s 0 k))))] [] (f, g, x_HR r t, dm, n) 0 0 := by
    by_cases q24 : s 0 k = 24
    · rw [show y_wd (s 0 k) = 24 by rw [q24]; rfl, if_pos q24]
      refine x_wp_ok ok47 [] 6 ?_
      refine And.intro (fun c => absurd rfl c) (fun _ => ?_)
      refine And.intro ?_ ⟨trivial, Nat.le_refl _, Nat.le_refl _⟩
      have er : y_sR s R k = R := if_neg (by omega)
      exact ⟨rfl, _, rfl, fun _ _ => rfl, fun j q => by rw [er]; exact q.resolve_right (by omega)⟩
    · rw [if_neg q24]
      by_cases q22 : s 0 k = 22
      · have w4 : f 36 k = nI (s 3 k) := w4 (by omega) (by omega) (by omega)
        have er : y_sR s R k = va_up R k (s 3 k) := if_pos q22
        have en : y_nx s NL v k = k + 1 := by
          unfold y_nx
          rw [if_neg q24, if_neg]
          intro q
          have := of_decide_eq_true q.1
          omega
        rw [show y_wd (s 0 k) = 22 by rw [q22]; rfl, en, ← nI_1]
        refine x_wp_ok ok47 [] 6 ?_
        refine And.intro (fun _ => ?_) (fun c => absurd c (by decide))
        refine And.intro (fun c => absurd rfl c) (fun _ => ?_)
        refine And.intro (x_ix_nI (by omega) (by omega)) ?_
        rw [nI_clamp (by omega)]
        refine And.intro (x_ix_nI (by omega) (by omega)) ?_
        rw [nI_clamp (by omega)]
        refine And.intro (fun _ => ?_) (fun c => absurd c (by decide))
        refine And.intro ?_ ⟨trivial, Nat.le_refl _, Nat.le_refl _⟩
        refine ⟨rfl, _, rfl, fun _ hc => x_un hc, fun j q => ?_⟩
        rw [er]
        by_cases hj : j = k
        · rw [hj, x_us, ← w4]
          unfold x_up
          rw [x_us, x_us]
        · rw [x_un hj, ← q.resolve_right (fun q => hj q.1)]
          unfold x_up
          rw [x_us, x_un hj]
      · have er : y_sR s R k = R := if_neg q22
        by_cases qw : 18 ≤ s 0 k ∧ s 0 k ≤ 20
        · have w5 : f 38 k = nI (s 4 k) := w5 (by omega) (by omega)
          have hwn : y_wn s k = true := decide_eq_true (by omega)
          have cl := c_holdsTrue_22_32 (d := d) (r := r) (t := t) (dm := dm) (n := n) hC hB hSC hNL hk hli qw
          rw [show y_wd (s 0 k) = 18 from if_pos qw]
          refine x_wp_ok ok47 [] 6 ?_
          refine And.intro (fun _ => ?_) (fun c => absurd c (by decide))
          refine And.intro (fun _ => ?_) (fun c => absurd c (by decide))
          refine And.intro (fun c => absurd rfl c) (fun _ => ?_)
          refine Exists.intro _ (And.intro cl (And.intro (And.intro (Nat.zero_le _) (Nat.zero_le _)) (fun q h' hpo => ?_)))
          obtain ⟨rfl, rfl⟩ := hpo
          cases ht : y_te s v k with
          | false =>
            have en : y_nx s NL v k = s 4 k + 1 := by
              unfold y_nx
              rw [if_neg q24, if_pos ⟨hwn, ht⟩]
            rw [en, ← nI_1, ← w5]
            refine And.intro (fun c => absurd rfl c) (fun _ => ?_)
            refine And.intro (x_ix_nI (by omega) (by omega)) ?_
            rw [nI_clamp (by omega)]
            refine And.intro ?_ ⟨trivial, Nat.le_refl _, Nat.le_refl _⟩
            exact ⟨rfl, _, rfl, fun _ _ => rfl, fun j q => by rw [er]; exact q.resolve_right (by omega)⟩
          | true =>
            have en : y_nx s NL v k = k + 1 := by
              unfold y_nx
              rw [if_neg q24, if_neg (fun q => absurd (ht.symm.trans q.2) (by decide))]
            rw [en, ← nI_1]
            refine And.intro (fun _ => ?_) (fun c => absurd (show (1 : Int32) = 0 from c) (by decide))
            refine And.intro ?_ ⟨trivial, Nat.le_refl _, Nat.le_refl _⟩
            exact ⟨rfl, _, rfl, fun _ _ => rfl, fun j q => by rw [er]; exact q.resolve_right (by omega)⟩
        · have hwn : ¬ y_wn s k = true := by
            intro q
            have := of_decide_eq_true q
            omega
          have en : y_nx s NL v k = k + 1 := by
            unfold y_nx
            rw [if_neg q24, if_neg (fun q => hwn q.1)]
          rw [show y_wd (s 0 k) = s 0 k from if_neg qw, en, ← nI_1]
          refine x_wp_ok ok47 [] 6 ?_
          refine And.intro (fun c1 => ?_) (fun c1 => ?_)
          · refine And.intro (fun c2 => ?_) (fun c2 => ?_)
            · refine And.intro (fun c3 => ?_) (fun c3 => ?_)
              · refine And.intro ?_ ⟨trivial, Nat.le_refl _, Nat.le_refl _⟩
                exact ⟨rfl, _, rfl, fun _ _ => rfl, fun j q => by rw [er]; exact q.resolve_right (by omega)⟩
              · have c3 : nI (s 0 k) = nI 18 := c3
                rw [nI_eq (by omega) (by decide)] at c3
                omega
            · have c2 : nI (s 0 k) = nI 22 := c2
              rw [nI_eq (by omega) (by decide)] at c2
              omega
          · have c1 : nI (s 0 k) = nI 24 := c1
            rw [nI_eq (by omega) (by decide)] at c1
            omega
  refine x_Ct_w (by decide) (Nat.le_of_ble_eq_true rfl) ok47 [8] 6 ?_
  refine And.intro (x_ix_nI (by omega) (by omega)) ?_
  rw [nI_clamp (by omega)]
  rw [← w1] at tail
  exact tail
theorem c_lineAfterStep_12_39_102 {k : Nat} {R : Nat → Nat} (hC : v_C f g 12 v) (hB : v_B v) (hSC : x_SC f 39 s NL) (hS : y_SV s NL (v 2 0 0) (v 0 0 0) (v 1 0 0)) (hk : k < NL) (he : s 0 k ≠ 23) : x_Ct 47 (d + 4) [.ref 102, .ref 12, .ref 39, .int (nI k)] (f, g, x_HR r t, dm, n) (fun q h' => q = some (.int (if s 0 k = 24 then -1 else nI (y_nx s NL v k))) ∧ ∃ F, h' = (F, g, x_HR r t, dm, n) ∧ (∀ c, c ≠ 103 → F c = f c) ∧ ∀ j, (f 103 j = nI (R j) ∨ (j = k ∧ s 0 k = 22)) → F 103 j = nI (y_sR s R k j)) := by
  have hNL := hS.1
  have hli := hS.2.1 k hk
  have h24 := y_li_24 hli
  have hw24 := y_wd_24 h24.2
  obtain ⟨w1, w2, w3, w4, w5⟩ := hSC.2 k hk
  have w1 : f 40 k = nI (y_wd (s 0 k)) := w1
  have tail : x_J 47 (d + 4) (fun q h' => q = some (.int (if s 0 k = 24 then -1 else nI (y_nx s NL v k))) ∧ ∃ F, h' = (F, g, x_HR r t, dm, n) ∧ (∀ c, c ≠ 103 → F c = f c) ∧ ∀ j, (f 103 j = nI (R j) ∨ (j = k ∧ s 0 k = 22)) → F 103 j = nI (y_sR s R k j)) 8 [some (.ref 102), some (.ref 12), some (.ref 39), some (.int (nI k)), some (.int (nI (y_wd (s 0 k))))] [] (f, g, x_HR r t, dm, n) 0 0 := by
    by_cases q24 : s 0 k = 24
    · rw [show y_wd (s 0 k) = 24 by rw [q24]; rfl, if_pos q24]
      refine x_wp_ok ok47 [] 6 ?_
      refine And.intro (fun c => absurd rfl c) (fun _ => ?_)
      refine And.intro ?_ ⟨trivial, Nat.le_refl _, Nat.le_refl _⟩
      have er : y_sR s R k = R := if_neg (by omega)
      exact ⟨rfl, _, rfl, fun _ _ => rfl, fun j q => by rw [er]; exact q.resolve_right (by omega)⟩
    · rw [if_neg q24]
      by_cases q22 : s 0 k = 22
      · have w4 : f 43 k = nI (s 3 k) := w4 (by omega) (by omega) (by omega)
        have er : y_sR s R k = va_up R k (s 3 k) := if_pos q22
        have en : y_nx s NL v k = k + 1 := by
          unfold y_nx
          rw [if_neg q24, if_neg]
          intro q
          have := of_decide_eq_true q.1
          omega
        rw [show y_wd (s 0 k) = 22 by rw [q22]; rfl, en, ← nI_1]
        refine x_wp_ok ok47 [] 6 ?_
        refine And.intro (fun _ => ?_) (fun c => absurd c (by decide))
        refine And.intro (fun c => absurd rfl c) (fun _ => ?_)
        refine And.intro (x_ix_nI (by omega) (by omega)) ?_
        rw [nI_clamp (by omega)]
        refine And.intro (x_ix_nI (by omega) (by omega)) ?_
        rw [nI_clamp (by omega)]
        refine And.intro (fun _ => ?_) (fun c => absurd c (by decide))
        refine And.intro ?_ ⟨trivial, Nat.le_refl _, Nat.le_refl _⟩
        refine ⟨rfl, _, rfl, fun _ hc => x_un hc, fun j q => ?_⟩
        rw [er]
        by_cases hj : j = k
        · rw [hj, x_us, ← w4]
          unfold x_up
          rw [x_us, x_us]
        · rw [x_un hj, ← q.resolve_right (fun q => hj q.1)]
          unfold x_up
          rw [x_us, x_un hj]
      · have er : y_sR s R k = R := if_neg q22
        by_cases qw : 18 ≤ s 0 k ∧ s 0 k ≤ 20
        · have w5 : f 45 k = nI (s 4 k) := w5 (by omega) (by omega)
          have hwn : y_wn s k = true := decide_eq_true (by omega)
          have cl := c_holdsTrue_12_39 (d := d) (r := r) (t := t) (dm := dm) (n := n) hC hB hSC hNL hk hli qw
          rw [show y_wd (s 0 k) = 18 from if_pos qw]
          refine x_wp_ok ok47 [] 6 ?_
          refine And.intro (fun _ => ?_) (fun c => absurd c (by decide))
          refine And.intro (fun _ => ?_) (fun c => absurd c (by decide))
          refine And.intro (fun c => absurd rfl c) (fun _ => ?_)
          refine Exists.intro _ (And.intro cl (And.intro (And.intro (Nat.zero_le _) (Nat.zero_le _)) (fun q h' hpo => ?_)))
          obtain ⟨rfl, rfl⟩ := hpo
          cases ht : y_te s v k with
          | false =>
            have en : y_nx s NL v k = s 4 k + 1 := by
              unfold y_nx
              rw [if_neg q24, if_pos ⟨hwn, ht⟩]
            rw [en, ← nI_1, ← w5]
            refine And.intro (fun c => absurd rfl c) (fun _ => ?_)
            refine And.intro (x_ix_nI (by omega) (by omega)) ?_
            rw [nI_clamp (by omega)]
            refine And.intro ?_ ⟨trivial, Nat.le_refl _, Nat.le_refl _⟩
            exact ⟨rfl, _, rfl, fun _ _ => rfl, fun j q => by rw [er]; exact q.resolve_right (by omega)⟩
          | true =>
            have en : y_nx s NL v k = k + 1 := by
              unfold y_nx
              rw [if_neg q24, if_neg (fun q => absurd (ht.symm.trans q.2) (by decide))]
            rw [en, ← nI_1]
            refine And.intro (fun _ => ?_) (fun c => absurd (show (1 : Int32) = 0 from c) (by decide))
            refine And.intro ?_ ⟨trivial, Nat.le_refl _, Nat.le_refl _⟩
            exact ⟨rfl, _, rfl, fun _ _ => rfl, fun j q => by rw [er]; exact q.resolve_right (by omega)⟩
        · have hwn : ¬ y_wn s k = true := by
            intro q
            have := of_decide_eq_true q
            omega
          have en : y_nx s NL v k = k + 1 := by
            unfold y_nx
            rw [if_neg q24, if_neg (fun q => hwn q.1)]
          rw [show y_wd (s 0 k) = s 0 k from if_neg qw, en, ← nI_1]
          refine x_wp_ok ok47 [] 6 ?_
          refine And.intro (fun c1 => ?_) (fun c1 => ?_)
          · refine And.intro (fun c2 => ?_) (fun c2 => ?_)
            · refine And.intro (fun c3 => ?_) (fun c3 => ?_)
              · refine And.intro ?_ ⟨trivial, Nat.le_refl _, Nat.le_refl _⟩
                exact ⟨rfl, _, rfl, fun _ _ => rfl, fun j q => by rw [er]; exact q.resolve_right (by omega)⟩
              · have c3 : nI (s 0 k) = nI 18 := c3
                rw [nI_eq (by omega) (by decide)] at c3
                omega
            · have c2 : nI (s 0 k) = nI 22 := c2
              rw [nI_eq (by omega) (by decide)] at c2
              omega
          · have c1 : nI (s 0 k) = nI 24 := c1
            rw [nI_eq (by omega) (by decide)] at c1
            omega
  refine x_Ct_w (by decide) (Nat.le_of_ble_eq_true rfl) ok47 [8] 6 ?_
  refine And.intro (x_ix_nI (by omega) (by omega)) ?_
  rw [nI_clamp (by omega)]
  rw [← w1] at tail
  exact tail
theorem c_lineAfterStep_22_39_102 {k : Nat} {R : Nat → Nat} (hC : v_C f g 22 v) (hB : v_B v) (hSC : x_SC f 39 s NL) (hS : y_SV s NL (v 2 0 0) (v 0 0 0) (v 1 0 0)) (hk : k < NL) (he : s 0 k ≠ 23) : x_Ct 47 (d + 4) [.ref 102, .ref 22, .ref 39, .int (nI k)] (f, g, x_HR r t, dm, n) (fun q h' => q = some (.int (if s 0 k = 24 then -1 else nI (y_nx s NL v k))) ∧ ∃ F, h' = (F, g, x_HR r t, dm, n) ∧ (∀ c, c ≠ 103 → F c = f c) ∧ ∀ j, (f 103 j = nI (R j) ∨ (j = k ∧ s 0 k = 22)) → F 103 j = nI (y_sR s R k j)) := by
  have hNL := hS.1
  have hli := hS.2.1 k hk
  have h24 := y_li_24 hli
  have hw24 := y_wd_24 h24.2
  obtain ⟨w1, w2, w3, w4, w5⟩ := hSC.2 k hk
  have w1 : f 40 k = nI (y_wd (s 0 k)) := w1
  have tail : x_J 47 (d + 4) (fun q h' => q = some (.int (if s 0 k = 24 then -1 else nI (y_nx s NL v k))) ∧ ∃ F, h' = (F, g, x_HR r t, dm, n) ∧ (∀ c, c ≠ 103 → F c = f c) ∧ ∀ j, (f 103 j = nI (R j) ∨ (j = k ∧ s 0 k = 22)) → F 103 j = nI (y_sR s R k j)) 8 [some (.ref 102), some (.ref 22), some (.ref 39), some (.int (nI k)), some (.int (nI (y_wd (s 0 k))))] [] (f, g, x_HR r t, dm, n) 0 0 := by
    by_cases q24 : s 0 k = 24
    · rw [show y_wd (s 0 k) = 24 by rw [q24]; rfl, if_pos q24]
      refine x_wp_ok ok47 [] 6 ?_
      refine And.intro (fun c => absurd rfl c) (fun _ => ?_)
      refine And.intro ?_ ⟨trivial, Nat.le_refl _, Nat.le_refl _⟩
      have er : y_sR s R k = R := if_neg (by omega)
      exact ⟨rfl, _, rfl, fun _ _ => rfl, fun j q => by rw [er]; exact q.resolve_right (by omega)⟩
    · rw [if_neg q24]
      by_cases q22 : s 0 k = 22
      · have w4 : f 43 k = nI (s 3 k) := w4 (by omega) (by omega) (by omega)
        have er : y_sR s R k = va_up R k (s 3 k) := if_pos q22
        have en : y_nx s NL v k = k + 1 := by
          unfold y_nx
          rw [if_neg q24, if_neg]
          intro q
          have := of_decide_eq_true q.1
          omega
        rw [show y_wd (s 0 k) = 22 by rw [q22]; rfl, en, ← nI_1]
        refine x_wp_ok ok47 [] 6 ?_
        refine And.intro (fun _ => ?_) (fun c => absurd c (by decide))
        refine And.intro (fun c => absurd rfl c) (fun _ => ?_)
        refine And.intro (x_ix_nI (by omega) (by omega)) ?_
        rw [nI_clamp (by omega)]
        refine And.intro (x_ix_nI (by omega) (by omega)) ?_
        rw [nI_clamp (by omega)]
        refine And.intro (fun _ => ?_) (fun c => absurd c (by decide))
        refine And.intro ?_ ⟨trivial, Nat.le_refl _, Nat.le_refl _⟩
        refine ⟨rfl, _, rfl, fun _ hc => x_un hc, fun j q => ?_⟩
        rw [er]
        by_cases hj : j = k
        · rw [hj, x_us, ← w4]
          unfold x_up
          rw [x_us, x_us]
        · rw [x_un hj, ← q.resolve_right (fun q => hj q.1)]
          unfold x_up
          rw [x_us, x_un hj]
      · have er : y_sR s R k = R := if_neg q22
        by_cases qw : 18 ≤ s 0 k ∧ s 0 k ≤ 20
        · have w5 : f 45 k = nI (s 4 k) := w5 (by omega) (by omega)
          have hwn : y_wn s k = true := decide_eq_true (by omega)
          have cl := c_holdsTrue_22_39 (d := d) (r := r) (t := t) (dm := dm) (n := n) hC hB hSC hNL hk hli qw
          rw [show y_wd (s 0 k) = 18 from if_pos qw]
          refine x_wp_ok ok47 [] 6 ?_
          refine And.intro (fun _ => ?_) (fun c => absurd c (by decide))
          refine And.intro (fun _ => ?_) (fun c => absurd c (by decide))
          refine And.intro (fun c => absurd rfl c) (fun _ => ?_)
          refine Exists.intro _ (And.intro cl (And.intro (And.intro (Nat.zero_le _) (Nat.zero_le _)) (fun q h' hpo => ?_)))
          obtain ⟨rfl, rfl⟩ := hpo
          cases ht : y_te s v k with
          | false =>
            have en : y_nx s NL v k = s 4 k + 1 := by
              unfold y_nx
              rw [if_neg q24, if_pos ⟨hwn, ht⟩]
            rw [en, ← nI_1, ← w5]
            refine And.intro (fun c => absurd rfl c) (fun _ => ?_)
            refine And.intro (x_ix_nI (by omega) (by omega)) ?_
            rw [nI_clamp (by omega)]
            refine And.intro ?_ ⟨trivial, Nat.le_refl _, Nat.le_refl _⟩
            exact ⟨rfl, _, rfl, fun _ _ => rfl, fun j q => by rw [er]; exact q.resolve_right (by omega)⟩
          | true =>
            have en : y_nx s NL v k = k + 1 := by
              unfold y_nx
              rw [if_neg q24, if_neg (fun q => absurd (ht.symm.trans q.2) (by decide))]
            rw [en, ← nI_1]
            refine And.intro (fun _ => ?_) (fun c => absurd (show (1 : Int32) = 0 from c) (by decide))
            refine And.intro ?_ ⟨trivial, Nat.le_refl _, Nat.le_refl _⟩
            exact ⟨rfl, _, rfl, fun _ _ => rfl, fun j q => by rw [er]; exact q.resolve_right (by omega)⟩
        · have hwn : ¬ y_wn s k = true := by
            intro q
            have := of_decide_eq_true q
            omega
          have en : y_nx s NL v k = k + 1 := by
            unfold y_nx
            rw [if_neg q24, if_neg (fun q => hwn q.1)]
          rw [show y_wd (s 0 k) = s 0 k from if_neg qw, en, ← nI_1]
          refine x_wp_ok ok47 [] 6 ?_
          refine And.intro (fun c1 => ?_) (fun c1 => ?_)
          · refine And.intro (fun c2 => ?_) (fun c2 => ?_)
            · refine And.intro (fun c3 => ?_) (fun c3 => ?_)
              · refine And.intro ?_ ⟨trivial, Nat.le_refl _, Nat.le_refl _⟩
                exact ⟨rfl, _, rfl, fun _ _ => rfl, fun j q => by rw [er]; exact q.resolve_right (by omega)⟩
              · have c3 : nI (s 0 k) = nI 18 := c3
                rw [nI_eq (by omega) (by decide)] at c3
                omega
            · have c2 : nI (s 0 k) = nI 22 := c2
              rw [nI_eq (by omega) (by decide)] at c2
              omega
          · have c1 : nI (s 0 k) = nI 24 := c1
            rw [nI_eq (by omega) (by decide)] at c1
            omega
  refine x_Ct_w (by decide) (Nat.le_of_ble_eq_true rfl) ok47 [8] 6 ?_
  refine And.intro (x_ix_nI (by omega) (by omega)) ?_
  rw [nI_clamp (by omega)]
  rw [← w1] at tail
  exact tail
theorem c_lineAfterStep_12_39_104 {k : Nat} {R : Nat → Nat} (hC : v_C f g 12 v) (hB : v_B v) (hSC : x_SC f 39 s NL) (hS : y_SV s NL (v 2 0 0) (v 0 0 0) (v 1 0 0)) (hk : k < NL) (he : s 0 k ≠ 23) : x_Ct 47 (d + 4) [.ref 104, .ref 12, .ref 39, .int (nI k)] (f, g, x_HR r t, dm, n) (fun q h' => q = some (.int (if s 0 k = 24 then -1 else nI (y_nx s NL v k))) ∧ ∃ F, h' = (F, g, x_HR r t, dm, n) ∧ (∀ c, c ≠ 105 → F c = f c) ∧ ∀ j, (f 105 j = nI (R j) ∨ (j = k ∧ s 0 k = 22)) → F 105 j = nI (y_sR s R k j)) := by
  have hNL := hS.1
  have hli := hS.2.1 k hk
  have h24 := y_li_24 hli
  have hw24 := y_wd_24 h24.2
  obtain ⟨w1, w2, w3, w4, w5⟩ := hSC.2 k hk
  have w1 : f 40 k = nI (y_wd (s 0 k)) := w1
  have tail : x_J 47 (d + 4) (fun q h' => q = some (.int (if s 0 k = 24 then -1 else nI (y_nx s NL v k))) ∧ ∃ F, h' = (F, g, x_HR r t, dm, n) ∧ (∀ c, c ≠ 105 → F c = f c) ∧ ∀ j, (f 105 j = nI (R j) ∨ (j = k ∧ s 0 k = 22)) → F 105 j = nI (y_sR s R k j)) 8 [some (.ref 104), some (.ref 12), some (.ref 39), some (.int (nI k)), some (.int (nI (y_wd (s 0 k))))] [] (f, g, x_HR r t, dm, n) 0 0 := by
    by_cases q24 : s 0 k = 24
    · rw [show y_wd (s 0 k) = 24 by rw [q24]; rfl, if_pos q24]
      refine x_wp_ok ok47 [] 6 ?_
      refine And.intro (fun c => absurd rfl c) (fun _ => ?_)
      refine And.intro ?_ ⟨trivial, Nat.le_refl _, Nat.le_refl _⟩
      have er : y_sR s R k = R := if_neg (by omega)
      exact ⟨rfl, _, rfl, fun _ _ => rfl, fun j q => by rw [er]; exact q.resolve_right (by omega)⟩
    · rw [if_neg q24]
      by_cases q22 : s 0 k = 22
      · have w4 : f 43 k = nI (s 3 k) := w4 (by omega) (by omega) (by omega)
        have er : y_sR s R k = va_up R k (s 3 k) := if_pos q22
        have en : y_nx s NL v k = k + 1 := by
          unfold y_nx
          rw [if_neg q24, if_neg]
          intro q
          have := of_decide_eq_true q.1
          omega
        rw [show y_wd (s 0 k) = 22 by rw [q22]; rfl, en, ← nI_1]
        refine x_wp_ok ok47 [] 6 ?_
        refine And.intro (fun _ => ?_) (fun c => absurd c (by decide))
        refine And.intro (fun c => absurd rfl c) (fun _ => ?_)
        refine And.intro (x_ix_nI (by omega) (by omega)) ?_
        rw [nI_clamp (by omega)]
        refine And.intro (x_ix_nI (by omega) (by omega)) ?_
        rw [nI_clamp (by omega)]
        refine And.intro (fun _ => ?_) (fun c => absurd c (by decide))
        refine And.intro ?_ ⟨trivial, Nat.le_refl _, Nat.le_refl _⟩
        refine ⟨rfl, _, rfl, fun _ hc => x_un hc, fun j q => ?_⟩
        rw [er]
        by_cases hj : j = k
        · rw [hj, x_us, ← w4]
          unfold x_up
          rw [x_us, x_us]
        · rw [x_un hj, ← q.resolve_right (fun q => hj q.1)]
          unfold x_up
          rw [x_us, x_un hj]
      · have er : y_sR s R k = R := if_neg q22
        by_cases qw : 18 ≤ s 0 k ∧ s 0 k ≤ 20
        · have w5 : f 45 k = nI (s 4 k) := w5 (by omega) (by omega)
          have hwn : y_wn s k = true := decide_eq_true (by omega)
          have cl := c_holdsTrue_12_39 (d := d) (r := r) (t := t) (dm := dm) (n := n) hC hB hSC hNL hk hli qw
          rw [show y_wd (s 0 k) = 18 from if_pos qw]
          refine x_wp_ok ok47 [] 6 ?_
          refine And.intro (fun _ => ?_) (fun c => absurd c (by decide))
          refine And.intro (fun _ => ?_) (fun c => absurd c (by decide))
          refine And.intro (fun c => absurd rfl c) (fun _ => ?_)
          refine Exists.intro _ (And.intro cl (And.intro (And.intro (Nat.zero_le _) (Nat.zero_le _)) (fun q h' hpo => ?_)))
          obtain ⟨rfl, rfl⟩ := hpo
          cases ht : y_te s v k with
          | false =>
            have en : y_nx s NL v k = s 4 k + 1 := by
              unfold y_nx
              rw [if_neg q24, if_pos ⟨hwn, ht⟩]
            rw [en, ← nI_1, ← w5]
            refine And.intro (fun c => absurd rfl c) (fun _ => ?_)
            refine And.intro (x_ix_nI (by omega) (by omega)) ?_
            rw [nI_clamp (by omega)]
            refine And.intro ?_ ⟨trivial, Nat.le_refl _, Nat.le_refl _⟩
            exact ⟨rfl, _, rfl, fun _ _ => rfl, fun j q => by rw [er]; exact q.resolve_right (by omega)⟩
          | true =>
            have en : y_nx s NL v k = k + 1 := by
              unfold y_nx
              rw [if_neg q24, if_neg (fun q => absurd (ht.symm.trans q.2) (by decide))]
            rw [en, ← nI_1]
            refine And.intro (fun _ => ?_) (fun c => absurd (show (1 : Int32) = 0 from c) (by decide))
            refine And.intro ?_ ⟨trivial, Nat.le_refl _, Nat.le_refl _⟩
            exact ⟨rfl, _, rfl, fun _ _ => rfl, fun j q => by rw [er]; exact q.resolve_right (by omega)⟩
        · have hwn : ¬ y_wn s k = true := by
            intro q
            have := of_decide_eq_true q
            omega
          have en : y_nx s NL v k = k + 1 := by
            unfold y_nx
            rw [if_neg q24, if_neg (fun q => hwn q.1)]
          rw [show y_wd (s 0 k) = s 0 k from if_neg qw, en, ← nI_1]
          refine x_wp_ok ok47 [] 6 ?_
          refine And.intro (fun c1 => ?_) (fun c1 => ?_)
          · refine And.intro (fun c2 => ?_) (fun c2 => ?_)
            · refine And.intro (fun c3 => ?_) (fun c3 => ?_)
              · refine And.intro ?_ ⟨trivial, Nat.le_refl _, Nat.le_refl _⟩
                exact ⟨rfl, _, rfl, fun _ _ => rfl, fun j q => by rw [er]; exact q.resolve_right (by omega)⟩
              · have c3 : nI (s 0 k) = nI 18 := c3
                rw [nI_eq (by omega) (by decide)] at c3
                omega
            · have c2 : nI (s 0 k) = nI 22 := c2
              rw [nI_eq (by omega) (by decide)] at c2
              omega
          · have c1 : nI (s 0 k) = nI 24 := c1
            rw [nI_eq (by omega) (by decide)] at c1
            omega
  refine x_Ct_w (by decide) (Nat.le_of_ble_eq_true rfl) ok47 [8] 6 ?_
  refine And.intro (x_ix_nI (by omega) (by omega)) ?_
  rw [nI_clamp (by omega)]
  rw [← w1] at tail
  exact tail
theorem c_lineAfterStep_22_39_104 {k : Nat} {R : Nat → Nat} (hC : v_C f g 22 v) (hB : v_B v) (hSC : x_SC f 39 s NL) (hS : y_SV s NL (v 2 0 0) (v 0 0 0) (v 1 0 0)) (hk : k < NL) (he : s 0 k ≠ 23) : x_Ct 47 (d + 4) [.ref 104, .ref 22, .ref 39, .int (nI k)] (f, g, x_HR r t, dm, n) (fun q h' => q = some (.int (if s 0 k = 24 then -1 else nI (y_nx s NL v k))) ∧ ∃ F, h' = (F, g, x_HR r t, dm, n) ∧ (∀ c, c ≠ 105 → F c = f c) ∧ ∀ j, (f 105 j = nI (R j) ∨ (j = k ∧ s 0 k = 22)) → F 105 j = nI (y_sR s R k j)) := by
  have hNL := hS.1
  have hli := hS.2.1 k hk
  have h24 := y_li_24 hli
  have hw24 := y_wd_24 h24.2
  obtain ⟨w1, w2, w3, w4, w5⟩ := hSC.2 k hk
  have w1 : f 40 k = nI (y_wd (s 0 k)) := w1
  have tail : x_J 47 (d + 4) (fun q h' => q = some (.int (if s 0 k = 24 then -1 else nI (y_nx s NL v k))) ∧ ∃ F, h' = (F, g, x_HR r t, dm, n) ∧ (∀ c, c ≠ 105 → F c = f c) ∧ ∀ j, (f 105 j = nI (R j) ∨ (j = k ∧ s 0 k = 22)) → F 105 j = nI (y_sR s R k j)) 8 [some (.ref 104), some (.ref 22), some (.ref 39), some (.int (nI k)), some (.int (nI (y_wd (s 0 k))))] [] (f, g, x_HR r t, dm, n) 0 0 := by
    by_cases q24 : s 0 k = 24
    · rw [show y_wd (s 0 k) = 24 by rw [q24]; rfl, if_pos q24]
      refine x_wp_ok ok47 [] 6 ?_
      refine And.intro (fun c => absurd rfl c) (fun _ => ?_)
      refine And.intro ?_ ⟨trivial, Nat.le_refl _, Nat.le_refl _⟩
      have er : y_sR s R k = R := if_neg (by omega)
      exact ⟨rfl, _, rfl, fun _ _ => rfl, fun j q => by rw [er]; exact q.resolve_right (by omega)⟩
    · rw [if_neg q24]
      by_cases q22 : s 0 k = 22
      · have w4 : f 43 k = nI (s 3 k) := w4 (by omega) (by omega) (by omega)
        have er : y_sR s R k = va_up R k (s 3 k) := if_pos q22
        have en : y_nx s NL v k = k + 1 := by
          unfold y_nx
          rw [if_neg q24, if_neg]
          intro q
          have := of_decide_eq_true q.1
          omega
        rw [show y_wd (s 0 k) = 22 by rw [q22]; rfl, en, ← nI_1]
        refine x_wp_ok ok47 [] 6 ?_
        refine And.intro (fun _ => ?_) (fun c => absurd c (by decide))
        refine And.intro (fun c => absurd rfl c) (fun _ => ?_)
        refine And.intro (x_ix_nI (by omega) (by omega)) ?_
        rw [nI_clamp (by omega)]
        refine And.intro (x_ix_nI (by omega) (by omega)) ?_
        rw [nI_clamp (by omega)]
        refine And.intro (fun _ => ?_) (fun c => absurd c (by decide))
        refine And.intro ?_ ⟨trivial, Nat.le_refl _, Nat.le_refl _⟩
        refine ⟨rfl, _, rfl, fun _ hc => x_un hc, fun j q => ?_⟩
        rw [er]
        by_cases hj : j = k
        · rw [hj, x_us, ← w4]
          unfold x_up
          rw [x_us, x_us]
        · rw [x_un hj, ← q.resolve_right (fun q => hj q.1)]
          unfold x_up
          rw [x_us, x_un hj]
      · have er : y_sR s R k = R := if_neg q22
        by_cases qw : 18 ≤ s 0 k ∧ s 0 k ≤ 20
        · have w5 : f 45 k = nI (s 4 k) := w5 (by omega) (by omega)
          have hwn : y_wn s k = true := decide_eq_true (by omega)
          have cl := c_holdsTrue_22_39 (d := d) (r := r) (t := t) (dm := dm) (n := n) hC hB hSC hNL hk hli qw
          rw [show y_wd (s 0 k) = 18 from if_pos qw]
          refine x_wp_ok ok47 [] 6 ?_
          refine And.intro (fun _ => ?_) (fun c => absurd c (by decide))
          refine And.intro (fun _ => ?_) (fun c => absurd c (by decide))
          refine And.intro (fun c => absurd rfl c) (fun _ => ?_)
          refine Exists.intro _ (And.intro cl (And.intro (And.intro (Nat.zero_le _) (Nat.zero_le _)) (fun q h' hpo => ?_)))
          obtain ⟨rfl, rfl⟩ := hpo
          cases ht : y_te s v k with
          | false =>
            have en : y_nx s NL v k = s 4 k + 1 := by
              unfold y_nx
              rw [if_neg q24, if_pos ⟨hwn, ht⟩]
            rw [en, ← nI_1, ← w5]
            refine And.intro (fun c => absurd rfl c) (fun _ => ?_)
            refine And.intro (x_ix_nI (by omega) (by omega)) ?_
            rw [nI_clamp (by omega)]
            refine And.intro ?_ ⟨trivial, Nat.le_refl _, Nat.le_refl _⟩
            exact ⟨rfl, _, rfl, fun _ _ => rfl, fun j q => by rw [er]; exact q.resolve_right (by omega)⟩
          | true =>
            have en : y_nx s NL v k = k + 1 := by
              unfold y_nx
              rw [if_neg q24, if_neg (fun q => absurd (ht.symm.trans q.2) (by decide))]
            rw [en, ← nI_1]
            refine And.intro (fun _ => ?_) (fun c => absurd (show (1 : Int32) = 0 from c) (by decide))
            refine And.intro ?_ ⟨trivial, Nat.le_refl _, Nat.le_refl _⟩
            exact ⟨rfl, _, rfl, fun _ _ => rfl, fun j q => by rw [er]; exact q.resolve_right (by omega)⟩
        · have hwn : ¬ y_wn s k = true := by
            intro q
            have := of_decide_eq_true q
            omega
          have en : y_nx s NL v k = k + 1 := by
            unfold y_nx
            rw [if_neg q24, if_neg (fun q => hwn q.1)]
          rw [show y_wd (s 0 k) = s 0 k from if_neg qw, en, ← nI_1]
          refine x_wp_ok ok47 [] 6 ?_
          refine And.intro (fun c1 => ?_) (fun c1 => ?_)
          · refine And.intro (fun c2 => ?_) (fun c2 => ?_)
            · refine And.intro (fun c3 => ?_) (fun c3 => ?_)
              · refine And.intro ?_ ⟨trivial, Nat.le_refl _, Nat.le_refl _⟩
                exact ⟨rfl, _, rfl, fun _ _ => rfl, fun j q => by rw [er]; exact q.resolve_right (by omega)⟩
              · have c3 : nI (s 0 k) = nI 18 := c3
                rw [nI_eq (by omega) (by decide)] at c3
                omega
            · have c2 : nI (s 0 k) = nI 22 := c2
              rw [nI_eq (by omega) (by decide)] at c2
              omega
          · have c1 : nI (s 0 k) = nI 24 := c1
            rw [nI_eq (by omega) (by decide)] at c1
            omega
  refine x_Ct_w (by decide) (Nat.le_of_ble_eq_true rfl) ok47 [8] 6 ?_
  refine And.intro (x_ix_nI (by omega) (by omega)) ?_
  rw [nI_clamp (by omega)]
  rw [← w1] at tail
  exact tail
end C58
