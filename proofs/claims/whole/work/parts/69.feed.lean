/-! feed(): four bytes of a number at a time -/
def y_nb (x : Int32) : Int32 := x.toInt8.toInt32.toInt8.toInt32
def y_by (x : Int32) (i : Nat) : Int32 := match i with
  | 0 => y_nb (x >>> ((Int8.ofInt 24).toInt32 &&& 31))
  | 1 => y_nb (x >>> ((Int8.ofInt 16).toInt32 &&& 31))
  | 2 => y_nb (x >>> ((Int8.ofInt 8).toInt32 &&& 31))
  | _ => y_nb x
def y_p4 (a : Nat → Int32) (k : Nat) (x : Int32) : Nat → Int32 := fun j => if k ≤ j ∧ j < k + 4 then y_by x (j - k) else a j
def y_p20 (a : Nat → Int32) (k : Nat) (x1 x2 x3 x4 x5 : Int32) : Nat → Int32 := y_p4 (y_p4 (y_p4 (y_p4 (y_p4 a k x1) (k + 4) x2) (k + 8) x3) (k + 12) x4) (k + 16) x5
theorem y_p4_up (a : Nat → Int32) (k : Nat) (x : Int32) : va_up (va_up (va_up (va_up a k (y_by x 0)) (k + 1) (y_by x 1)) (k + 2) (y_by x 2)) (k + 3) (y_by x 3) = y_p4 a k x := by
  funext j
  unfold y_p4
  by_cases h3 : j = k + 3
  · rw [h3, x_us, if_pos (by omega), show k + 3 - k = 3 by omega]
  · rw [x_un h3]
    by_cases h2 : j = k + 2
    · rw [h2, x_us, if_pos (by omega), show k + 2 - k = 2 by omega]
    · rw [x_un h2]
      by_cases h1 : j = k + 1
      · rw [h1, x_us, if_pos (by omega), show k + 1 - k = 1 by omega]
      · rw [x_un h1]
        by_cases h0 : j = k
        · rw [h0, x_us, if_pos (by omega), show k - k = 0 by omega]
        · rw [x_un h0, if_neg (by omega)]
theorem x_up2 {α : Type} {f : Nat → α} {c : Nat} {u w : α} : va_up (va_up f c u) c w = va_up f c w := by
  funext a
  by_cases h : a = c
  · rw [h, x_us, x_us]
  · rw [x_un h, x_un h, x_un h]
theorem x_up_up {f : Nat → Nat → Int32} {c i j : Nat} {a b : Int32} : x_up (x_up f c i a) c j b = va_up f c (va_up (va_up (f c) i a) j b) := by
  unfold x_up
  rw [x_us, x_up2]
theorem x_vu_up {f : Nat → Nat → Int32} {c j : Nat} {u : Nat → Int32} {b : Int32} : x_up (va_up f c u) c j b = va_up f c (va_up u j b) := by
  unfold x_up
  rw [x_us, x_up2]
theorem x_sh0 (x : Int32) : x >>> (nI 0 &&& 31) = x := by
  refine Int32.toInt_inj.mp ?_
  rw [pk_shr x (nI 0 &&& 31) 0 rfl]
  exact Int.shiftRight_zero _
theorem x_upC {f : Nat → Nat → Int32} {u w : Nat → Int32} : va_up (va_up f 500 u) 506 w = va_up (va_up f 506 w) 500 u := by
  funext c
  by_cases h : c = 500
  · rw [h, x_un (by decide), x_us, x_us]
  · by_cases h2 : c = 506
    · rw [h2, x_us, x_un (by decide), x_us]
    · rw [x_un h2, x_un h, x_un h, x_un h2]
theorem x_up56 {f : Nat → Nat → Int32} {u : Nat → Int32} : va_up f 500 u 506 = f 506 := x_un (by decide)
theorem x_up65 {f : Nat → Nat → Int32} {u : Nat → Int32} : va_up f 506 u 500 = f 500 := x_un (by decide)
section C69
variable {f : Nat → Nat → Int32} {g : Nat → Nat → Int64} {r t : Nat} {dm : List Nat} {n d N : Nat} {v : xV}
theorem c_putInt {k : Nat} {x y : Int32} (hy : y = nI k) (hk : k + 4 ≤ 900) : x_Ct 79 d [.ref 10, .int y, .int x] (f, g, x_HR r t, dm, n) (fun q h' => q = none ∧ h' = (va_up f 11 (y_p4 (f 11) k x), g, x_HR r t, dm, n)) := by
  subst hy
  have i1 : nI k + nI 1 = nI (k + 1) := nI_add _ _
  have i2 : nI k + nI 2 = nI (k + 2) := nI_add _ _
  have i3 : nI k + nI 3 = nI (k + 3) := nI_add _ _
  refine x_Ct_w (by decide) (Nat.le_of_ble_eq_true rfl) ok79 [] 6 ?_
  refine And.intro (fun c => absurd (show nI k < 0 from c) (nI_pos (by omega))) (fun _ => ?_)
  refine And.intro (fun _ => ?_) (fun c => absurd (show nI k + nI 4 ≤ nI 900 by rw [nI_add]; exact nI_le (by omega) (by decide)) c)
  refine And.intro (x_ix_nI (by omega) (by omega)) ?_
  refine And.intro (by show x_ix (nI k + nI 1) 900; rw [i1]; exact x_ix_nI (by omega) (by omega)) ?_
  refine And.intro (by show x_ix (nI k + nI 2) 900; rw [i2]; exact x_ix_nI (by omega) (by omega)) ?_
  refine And.intro (by show x_ix (nI k + nI 3) 900; rw [i3]; exact x_ix_nI (by omega) (by omega)) ?_
  refine And.intro ?_ ⟨trivial, Nat.le_refl _, Nat.le_refl _⟩
  refine ⟨rfl, ?_⟩
  have e : x_up (x_up (x_up (x_up f 11 k (y_by x 0)) 11 (k + 1) (y_by x 1)) 11 (k + 2) (y_by x 2)) 11 (k + 3) (y_by x 3) = va_up f 11 (y_p4 (f 11) k x) := by
    simp only [x_up, x_us, x_up2, y_p4_up]
  rw [← e, ← nI_clamp (show k + 1 < 2 ^ 31 by omega), ← nI_clamp (show k + 2 < 2 ^ 31 by omega), ← nI_clamp (show k + 3 < 2 ^ 31 by omega), ← i1, ← i2, ← i3, nI_clamp (show k < 2 ^ 31 by omega)]
  rfl
theorem c_feed {k : Nat} {x1 x2 x3 x4 x5 : Int32} (hf : f 0 5 = nI k) (hk : k ≤ 900) : x_Ct 104 (d + 1) [.ref 0, .int x1, .int x2, .int x3, .int x4, .int x5] (f, g, x_HR r t, dm, n) (fun q h' => if 900 < k + 20 then q = some (.int (-1)) ∧ h' = (f, g, x_HR r t, dm, n) else q = some (.int (nI (k + 20))) ∧ h' = (x_up (va_up f 11 (y_p20 (f 11) k x1 x2 x3 x4 x5)) 0 5 (nI (k + 20)), g, x_HR r t, dm, n)) := by
  obtain ⟨Po, hPo⟩ : ∃ Po : Option Value → xH → Prop, Po = (fun q h' => if 900 < k + 20 then q = some (.int (-1)) ∧ h' = (f, g, x_HR r t, dm, n) else q = some (.int (nI (k + 20))) ∧ h' = (x_up (va_up f 11 (y_p20 (f 11) k x1 x2 x3 x4 x5)) 0 5 (nI (k + 20)), g, x_HR r t, dm, n)) := ⟨_, rfl⟩
  rw [← hPo]
  refine x_Ct_w (by decide) (Nat.le_of_ble_eq_true rfl) ok104 [] 6 ?_
  by_cases h9 : 900 < k + 20
  · refine And.intro (fun c => absurd (show f 0 5 + nI 20 ≤ nI 900 from c) (by rw [hf, nI_add]; exact nI_ge h9 (by omega))) (fun _ => ?_)
    refine And.intro ?_ ⟨trivial, Nat.le_refl _, Nat.le_refl _⟩
    rw [hPo]
    show (if 900 < k + 20 then _ else _)
    rw [if_pos h9]
    exact ⟨rfl, rfl⟩
  · refine And.intro (fun _ => ?_) (fun c => absurd (show f 0 5 + nI 20 ≤ nI 900 by rw [hf, nI_add]; exact nI_le (by omega) (by decide)) c)
    refine Exists.intro _ (And.intro (c_putInt (k := k) hf (by omega)) (And.intro (And.intro (Nat.zero_le _) (Nat.zero_le _)) (fun q h' hpo => ?_)))
    obtain ⟨rfl, rfl⟩ := hpo
    refine Exists.intro _ (And.intro (c_putInt (k := k + 4) (show f 0 5 + nI 4 = nI (k + 4) by rw [hf, nI_add]) (by omega)) (And.intro (And.intro (Nat.zero_le _) (Nat.zero_le _)) (fun q h' hpo => ?_)))
    obtain ⟨rfl, rfl⟩ := hpo
    refine Exists.intro _ (And.intro (c_putInt (k := k + 8) (show f 0 5 + nI 8 = nI (k + 8) by rw [hf, nI_add]) (by omega)) (And.intro (And.intro (Nat.zero_le _) (Nat.zero_le _)) (fun q h' hpo => ?_)))
    obtain ⟨rfl, rfl⟩ := hpo
    refine Exists.intro _ (And.intro (c_putInt (k := k + 12) (show f 0 5 + nI 12 = nI (k + 12) by rw [hf, nI_add]) (by omega)) (And.intro (And.intro (Nat.zero_le _) (Nat.zero_le _)) (fun q h' hpo => ?_)))
    obtain ⟨rfl, rfl⟩ := hpo
    refine Exists.intro _ (And.intro (c_putInt (k := k + 16) (show f 0 5 + nI 16 = nI (k + 16) by rw [hf, nI_add]) (by omega)) (And.intro (And.intro (Nat.zero_le _) (Nat.zero_le _)) (fun q h' hpo => ?_)))
    obtain ⟨rfl, rfl⟩ := hpo
    refine And.intro ?_ ⟨trivial, Nat.le_refl _, Nat.le_refl _⟩
    rw [hPo]
    show (if 900 < k + 20 then _ else _)
    rw [if_neg h9]
    have e5 : f 0 5 + nI 20 = nI (k + 20) := by rw [hf, nI_add]
    refine ⟨congrArg (fun z => some (Value.int z)) e5, ?_⟩
    rw [← e5]
    simp only [x_up2, x_us]
    rfl
theorem m_four {k : Nat} {x : Int32} (hf : f 500 10 = nI k) (hk : k + 4 ≤ 900) : x_Ct 193 d [.ref 500, .int x] (f, g, x_HR r t, dm, n) (fun q h' => q = none ∧ h' = (x_up (va_up f 506 (y_p4 (f 506) k x)) 500 10 (nI (k + 4)), g, x_HR r t, dm, n)) := by
  obtain ⟨Po, hPo⟩ : ∃ Po : Option Value → xH → Prop, Po = (fun q h' => q = none ∧ h' = (x_up (va_up f 506 (y_p4 (f 506) k x)) 500 10 (nI (k + 4)), g, x_HR r t, dm, n)) := ⟨_, rfl⟩
  rw [← hPo]
  have step : ∀ (F : Nat → Nat → Int32) (i s : Nat), F 500 10 = nI i → i < 900 → s ≤ 24 → x_J 193 d Po 3 [some (.ref 500), some (.int x), some (.int (nI s + Int32.ofInt (-8)))] [] (x_up (x_up F 506 i (y_nb (x >>> (nI s &&& 31)))) 500 10 (nI (i + 1)), g, x_HR r t, dm, n) 0 0 → x_J 193 d Po 3 [some (.ref 500), some (.int x), some (.int (nI s))] [] (F, g, x_HR r t, dm, n) 0 0 := by
    intro F i s h1 h2 h3 e
    refine x_wp_ok ok193 [3] 6 ?_
    refine And.intro (fun c => absurd (show nI s < 0 from c) (nI_pos (by omega))) (fun _ => ?_)
    refine And.intro (by show x_ix (F 500 10) 900; rw [h1]; exact x_ix_nI (by omega) (by omega)) ?_
    rw [← nI_1, ← nI_clamp (show i < 2 ^ 31 by omega), nI_clamp (show i < 2 ^ 31 by omega), ← h1] at e
    rw [← nI_clamp (show i < 2 ^ 31 by omega), ← h1] at e
    exact e
  refine x_Ct_w (by decide) (Nat.le_of_ble_eq_true rfl) ok193 [3] 6 ?_
  refine step f k 24 hf (by omega) (by decide) ?_
  refine step _ (k + 1) 16 (x_up_s _ _ _ _) (by omega) (by decide) ?_
  refine step _ (k + 2) 8 (x_up_s _ _ _ _) (by omega) (by decide) ?_
  refine step _ (k + 3) 0 (x_up_s _ _ _ _) (by omega) (by decide) ?_
  refine x_wp_ok ok193 [3] 6 ?_
  refine And.intro (fun _ => ?_) (fun c => absurd (by decide) c)
  refine And.intro ?_ ⟨trivial, Nat.le_refl _, Nat.le_refl _⟩
  rw [hPo]
  refine ⟨rfl, ?_⟩
  have b0 : y_nb (x >>> (nI 24 &&& 31)) = y_by x 0 := rfl
  have b1 : y_nb (x >>> (nI 16 &&& 31)) = y_by x 1 := rfl
  have b2 : y_nb (x >>> (nI 8 &&& 31)) = y_by x 2 := rfl
  have b3 : y_nb (x >>> (nI 0 &&& 31)) = y_by x 3 := by rw [x_sh0]; rfl
  rw [b0, b1, b2, b3]
  simp only [x_up, x_us, x_up2, x_upC, x_up56, x_up65]
  rw [← y_p4_up]
theorem m_feed {k : Nat} {x1 x2 x3 x4 x5 : Int32} (hf : f 500 10 = nI k) (hk : k ≤ 900) : x_Ct 192 (d + 1) [.ref 500, .int x1, .int x2, .int x3, .int x4, .int x5] (f, g, x_HR r t, dm, n) (fun q h' => if 900 < k + 20 then q = some (.int (-1)) ∧ h' = (f, g, x_HR r t, dm, n) else q = some (.int (nI (k + 20))) ∧ h' = (x_up (va_up f 506 (y_p20 (f 506) k x1 x2 x3 x4 x5)) 500 10 (nI (k + 20)), g, x_HR r t, dm, n)) := by
  obtain ⟨Po, hPo⟩ : ∃ Po : Option Value → xH → Prop, Po = (fun q h' => if 900 < k + 20 then q = some (.int (-1)) ∧ h' = (f, g, x_HR r t, dm, n) else q = some (.int (nI (k + 20))) ∧ h' = (x_up (va_up f 506 (y_p20 (f 506) k x1 x2 x3 x4 x5)) 500 10 (nI (k + 20)), g, x_HR r t, dm, n)) := ⟨_, rfl⟩
  rw [← hPo]
  refine x_Ct_w (by decide) (Nat.le_of_ble_eq_true rfl) ok192 [] 6 ?_
  by_cases h9 : 900 < k + 20
  · refine And.intro (fun c => absurd (show f 500 10 + nI 20 ≤ nI 900 from c) (by rw [hf, nI_add]; exact nI_ge h9 (by omega))) (fun _ => ?_)
    refine And.intro ?_ ⟨trivial, Nat.le_refl _, Nat.le_refl _⟩
    rw [hPo]
    show (if 900 < k + 20 then _ else _)
    rw [if_pos h9]
    exact ⟨rfl, rfl⟩
  · refine And.intro (fun _ => ?_) (fun c => absurd (show f 500 10 + nI 20 ≤ nI 900 by rw [hf, nI_add]; exact nI_le (by omega) (by decide)) c)
    refine Exists.intro _ (And.intro (m_four (k := k) hf (by omega)) (And.intro (And.intro (Nat.zero_le _) (Nat.zero_le _)) (fun q h' hpo => ?_)))
    obtain ⟨rfl, rfl⟩ := hpo
    refine Exists.intro _ (And.intro (m_four (k := k + 4) (x_up_s _ _ _ _) (by omega)) (And.intro (And.intro (Nat.zero_le _) (Nat.zero_le _)) (fun q h' hpo => ?_)))
    obtain ⟨rfl, rfl⟩ := hpo
    refine Exists.intro _ (And.intro (m_four (k := k + 8) (x_up_s _ _ _ _) (by omega)) (And.intro (And.intro (Nat.zero_le _) (Nat.zero_le _)) (fun q h' hpo => ?_)))
    obtain ⟨rfl, rfl⟩ := hpo
    refine Exists.intro _ (And.intro (m_four (k := k + 12) (x_up_s _ _ _ _) (by omega)) (And.intro (And.intro (Nat.zero_le _) (Nat.zero_le _)) (fun q h' hpo => ?_)))
    obtain ⟨rfl, rfl⟩ := hpo
    refine Exists.intro _ (And.intro (m_four (k := k + 16) (x_up_s _ _ _ _) (by omega)) (And.intro (And.intro (Nat.zero_le _) (Nat.zero_le _)) (fun q h' hpo => ?_)))
    obtain ⟨rfl, rfl⟩ := hpo
    refine And.intro ?_ ⟨trivial, Nat.le_refl _, Nat.le_refl _⟩
    rw [hPo]
    show (if 900 < k + 20 then _ else _)
    rw [if_neg h9]
    refine ⟨congrArg (fun z => some (Value.int z)) ?_, ?_⟩
    · (simp only [x_i, x_up_s]) <;> rfl
    · simp only [x_up, x_us, x_up2, x_upC, x_up56, x_up65]
      rfl
end C69
