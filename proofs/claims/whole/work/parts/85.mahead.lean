/-! the model's tokens -/
def y_mk (x : Int32) : Int32 := if x = 3 then 0 else if x = 4 then 1 else if x = 1 then 2 else if x = 2 then 3 else 4
def y_KM (a : Nat → Int32) (m q : Nat) (F : Nat → Int32) : Prop := F 11 = nI m ∧ F 13 = nI q ∧ F 12 = y_mk (y_tk a m q) ∧ (y_sa a m q ≠ 3 → F 14 = nI (y_end a m q)) ∧ (y_tk a m q = 2 → F 15 = nI (y_nv a m q)) ∧ (y_mk (y_tk a m q) = 4 → F 15 = y_tk a m q)
theorem y_ba_blank {a : Nat → Int32} {m k : Nat} (hb : ∀ k, k < m → y_byt (a k)) : (y_ba a m k = 32 ∨ y_ba a m k = 10) ↔ y_iz a m 5 k = true := by
  unfold y_ba y_iz
  by_cases h : k < m
  · rw [if_pos h, Bool.and_eq_true, decide_eq_true_eq, decide_eq_true_eq, y_b_blank (hb k h)]
    exact ⟨fun q => ⟨h, q⟩, fun q => q.2⟩
  · rw [if_neg h, Bool.and_eq_true, decide_eq_true_eq]
    exact ⟨fun q => absurd q (by decide), fun q => absurd q.1 h⟩
theorem y_ba_small {a : Nat → Int32} {m k : Nat} (hb : ∀ k, k < m → y_byt (a k)) : (¬ y_ba a m k < 97 ∧ ¬ 122 < y_ba a m k) ↔ y_iz a m 1 k = true := by
  unfold y_ba y_iz
  by_cases h : k < m
  · rw [if_pos h, Bool.and_eq_true, decide_eq_true_eq, decide_eq_true_eq, y_b_small (hb k h)]
    exact ⟨fun q => ⟨h, q⟩, fun q => q.2⟩
  · rw [if_neg h, Bool.and_eq_true, decide_eq_true_eq]
    exact ⟨fun q => absurd q (by decide), fun q => absurd q.1 h⟩
theorem y_ba_digit {a : Nat → Int32} {m k : Nat} (hb : ∀ k, k < m → y_byt (a k)) : (¬ y_ba a m k < 48 ∧ ¬ 57 < y_ba a m k) ↔ y_iz a m 2 k = true := by
  unfold y_ba y_iz
  by_cases h : k < m
  · rw [if_pos h, Bool.and_eq_true, decide_eq_true_eq, decide_eq_true_eq, y_b_digit (hb k h)]
    exact ⟨fun q => ⟨h, q⟩, fun q => q.2⟩
  · rw [if_neg h, Bool.and_eq_true, decide_eq_true_eq]
    exact ⟨fun q => absurd q (by decide), fun q => absurd q.1 h⟩
theorem y_ba_no {a : Nat → Int32} {m k : Nat} (hb : ∀ k, k < m → y_byt (a k)) : y_ba a m k = -1 ↔ y_sa a m k = 3 := by
  unfold y_ba y_sa
  by_cases h : k < m
  · rw [if_pos h, if_pos h]
    refine ⟨fun q => absurd q (y_b_not (hb k h)), fun q => ?_⟩
    have e : ∀ x, y_byt x → y_sb x ≠ 3 := by
      rintro x ⟨k, hk, rfl⟩
      have e2 : ∀ k : Nat, k < 256 → y_sb (Int32.ofInt ((k : Int) - 128)) ≠ 3 := by decide +kernel
      exact e2 k hk
    exact absurd q (e _ (hb k h))
  · rw [if_neg h, if_neg h]
    exact ⟨fun _ => rfl, fun _ => rfl⟩
theorem y_iz_sa {a : Nat → Int32} {m k : Nat} {c : Int32} (hc : c ≠ 3) : y_iz a m c k = true ↔ y_sa a m k = c := by
  constructor
  · intro h
    have h1 := y_iz_lt k h
    unfold y_iz at h
    rw [Bool.and_eq_true, decide_eq_true_eq, decide_eq_true_eq] at h
    unfold y_sa
    rw [if_pos h1]
    exact h.2
  · intro h
    exact y_iz_t (y_sa_lt (by rw [h]; exact hc)) h
theorem y_skip_5 {a : Nat → Int32} {m p : Nat} (h : p ≤ m) : y_sa a m (y_skip a m p) ≠ 5 := by
  intro e
  have e2 := (y_run_sp (P := y_iz a m 5) y_iz_lt (m - p) p rfl h).2.2.2
  have e3 := (y_iz_sa (by decide)).mpr e
  have e4 : y_iz a m 5 (y_skip a m p) = false := e2
  rw [e4] at e3
  cases e3
section C85
variable {f : Nat → Nat → Int32} {g : Nat → Nat → Int64} {r t : Nat} {dm : List Nat} {n d N : Nat} {v : xV} {a : Nat → Int32} {m q : Nat}
theorem m_ahead0 {p : Nat} (h1 : f 500 11 = nI m) (hm : m ≤ 900) (h3 : f 500 14 = nI p) (hp : p ≤ m) (hb : ∀ k, k < m → y_byt (f 507 k)) : x_Ct 197 (d + 1) [.ref 500] (f, g, x_HR r t, dm, n) (fun z h' => z = none ∧ ∃ F, h' = (F, g, x_HR r t, dm, n) ∧ (∀ c, c ≠ 500 → F c = f c) ∧ (∀ j, j < 12 ∨ 15 < j → F 500 j = f 500 j) ∧ y_KM (f 507) m (y_skip (f 507) m p) (F 500)) := by
  obtain ⟨Po, hPo⟩ : ∃ Po : Option Value → xH → Prop, Po = (fun z h' => z = none ∧ ∃ F, h' = (F, g, x_HR r t, dm, n) ∧ (∀ c, c ≠ 500 → F c = f c) ∧ (∀ j, j < 12 ∨ 15 < j → F 500 j = f 500 j) ∧ y_KM (f 507) m (y_skip (f 507) m p) (F 500)) := ⟨_, rfl⟩
  rw [← hPo]
  obtain ⟨a, ha⟩ : ∃ a, a = f 507 := ⟨_, rfl⟩
  obtain ⟨q, hq⟩ : ∃ q, q = y_skip a m p := ⟨_, rfl⟩
  rw [← ha, ← hq] at hPo
  rw [← ha] at hb
  have hqm : q ≤ m := by rw [hq]; exact (y_skip_sp a hp).2
  have hq5 : y_sa a m q ≠ 5 := by rw [hq]; exact y_skip_5 hp
  have tkn : y_sa a m q ≠ 2 → y_tk a m q = y_sa a m q := fun h => if_neg (fun e => h e.1)
  have small : ∀ j k F x, m - k = j → q ≤ k → k ≤ m → (∀ c, c ≠ 500 → F c = f c) → (∀ j, j < 12 ∨ 15 < j → F 500 j = f 500 j) → F 500 13 = nI q → F 500 14 = nI k → y_sa a m q = 1 → y_run (y_iz a m 1) (m - k) k = y_end a m q → x_J 197 (d + 1) Po 81 [some (.ref 500), some (.int x)] [] (F, g, x_HR r t, dm, n) 0 0 := by
    intro j
    induction j with
    | zero =>
      intro k F x hj hqk hk c1 c2 k3 k4 ks hy
      have a7 : F 507 = a := by rw [ha]; exact c1 507 (by decide)
      have k1 : F 500 11 = nI m := (c2 11 (by decide)).trans h1
      have hno : y_iz a m 1 k = false := y_iz_f (fun q => absurd q.1 (by omega))
      refine x_wp_ok ok197 [0, 39, 81, 128] 6 ?_
      show ∃ P, x_Ct 194 d [.ref 500, .int (F 500 14)] _ P ∧ _
      rw [k4]
      refine Exists.intro _ (And.intro (m_byteAt (k := k) (m := m) k1 hm (by omega)) (And.intro (And.intro (Nat.zero_le _) (Nat.zero_le _)) (fun q h' hpo => ?_)))
      obtain ⟨rfl, rfl⟩ := hpo
      rw [a7]
      refine Exists.intro _ (And.intro m_isSmall (And.intro (And.intro (Nat.zero_le _) (Nat.zero_le _)) (fun q h' hpo => ?_)))
      obtain ⟨rfl, rfl⟩ := hpo
      rw [decide_eq_false (fun h => by rw [y_ba_small hb, hno] at h; cases h)]
      refine And.intro (fun _ => ?_) (fun c => absurd rfl c)
      refine And.intro ?_ ⟨trivial, Nat.le_refl _, Nat.le_refl _⟩
      rw [hPo]
      refine ⟨rfl, _, rfl, fun c hc => (x_up_k hc).trans (c1 c hc), fun j hj => (x_up_j (by omega)).trans (c2 j hj), k1, k3, ?_, fun _ => ?_, fun h => ?_, fun h => ?_⟩
      · rw [tkn (by rw [ks]; decide), ks]
        rfl
      · show F 500 14 = _
        rw [k4, ← hy, y_run_f hno]
      · rw [tkn (by rw [ks]; decide), ks] at h
        exact absurd h (by decide)
      · rw [tkn (by rw [ks]; decide), ks] at h
        exact absurd h (by decide)
    | succ j ih =>
      intro k F x hj hqk hk c1 c2 k3 k4 ks hy
      have a7 : F 507 = a := by rw [ha]; exact c1 507 (by decide)
      have k1 : F 500 11 = nI m := (c2 11 (by decide)).trans h1
      refine x_wp_ok ok197 [0, 39, 81, 128] 6 ?_
      show ∃ P, x_Ct 194 d [.ref 500, .int (F 500 14)] _ P ∧ _
      rw [k4]
      refine Exists.intro _ (And.intro (m_byteAt (k := k) (m := m) k1 hm (by omega)) (And.intro (And.intro (Nat.zero_le _) (Nat.zero_le _)) (fun q h' hpo => ?_)))
      obtain ⟨rfl, rfl⟩ := hpo
      rw [a7]
      refine Exists.intro _ (And.intro m_isSmall (And.intro (And.intro (Nat.zero_le _) (Nat.zero_le _)) (fun q h' hpo => ?_)))
      obtain ⟨rfl, rfl⟩ := hpo
      cases hno : y_iz a m 1 k with
      | false =>
        rw [decide_eq_false (fun h => by rw [y_ba_small hb, hno] at h; cases h)]
        refine And.intro (fun _ => ?_) (fun c => absurd rfl c)
        refine And.intro ?_ ⟨trivial, Nat.le_refl _, Nat.le_refl _⟩
        rw [hPo]
        refine ⟨rfl, _, rfl, fun c hc => (x_up_k hc).trans (c1 c hc), fun j hj => (x_up_j (by omega)).trans (c2 j hj), k1, k3, ?_, fun _ => ?_, fun h => ?_, fun h => ?_⟩
        · rw [tkn (by rw [ks]; decide), ks]
          rfl
        · show F 500 14 = _
          rw [k4, ← hy, y_run_f hno]
        · rw [tkn (by rw [ks]; decide), ks] at h
          exact absurd h (by decide)
        · rw [tkn (by rw [ks]; decide), ks] at h
          exact absurd h (by decide)
      | true =>
        rw [decide_eq_true ((y_ba_small hb).mpr hno)]
        refine And.intro (fun c => absurd (show (1 : Int32) = 0 from c) (by decide)) (fun _ => ?_)
        exact ih (k + 1) (x_up F 500 14 (F 500 14 + Int32.ofInt 1)) x (by omega) (by omega) (by omega) (fun c hc => (x_up_k hc).trans (c1 c hc)) (fun j hj => (x_up_j (by omega)).trans (c2 j hj)) k3 (by rw [x_up_s, k4, nI_1o]) ks (by rw [← hy, ← y_run_t hno (y_iz_lt k hno)])
  have dend : ∀ F k w, (∀ c, c ≠ 500 → F c = f c) → (∀ j, j < 12 ∨ 15 < j → F 500 j = f 500 j) → F 500 13 = nI q → F 500 14 = nI k → F 500 15 = nI w → k = y_end a m q → q ≤ k → k ≤ m → y_sa a m q = 2 → (k - q ≤ 4 → w = y_num a q (k - q)) → Po none (x_up F 500 12 (if nI k - nI q ≤ 4 then 3 else 1), g, x_HR r t, dm, n) := by
    intro F k w c1 c2 k3 k4 k5 hk hqk hkm ks hw
    subst hk
    have k1 : F 500 11 = nI m := (c2 11 (by decide)).trans h1
    have e4 : nI (y_end a m q) - nI q ≤ 4 ↔ y_end a m q - q ≤ 4 := by
      rw [pk_sub hqk]
      exact nI_leI (b := 4) (by omega) (by decide)
    rw [hPo]
    by_cases h4 : y_end a m q - q ≤ 4
    · rw [if_pos (e4.mpr h4)]
      have et : y_tk a m q = 2 := (if_neg (fun e => absurd e.2 (by omega))).trans ks
      refine ⟨rfl, _, rfl, fun c hc => (x_up_k hc).trans (c1 c hc), fun j hj => (x_up_j (by omega)).trans (c2 j hj), k1, k3, ?_, fun _ => k4, fun _ => ?_, fun h => ?_⟩
      · rw [et]
        rfl
      · show F 500 15 = _
        rw [k5, hw h4]
        rfl
      · rw [et] at h
        exact absurd h (by decide)
    · rw [if_neg (fun h => h4 (e4.mp h))]
      have et : y_tk a m q = 4 := if_pos ⟨ks, by omega⟩
      refine ⟨rfl, _, rfl, fun c hc => (x_up_k hc).trans (c1 c hc), fun j hj => (x_up_j (by omega)).trans (c2 j hj), k1, k3, ?_, fun _ => k4, fun h => ?_, fun h => ?_⟩
      · rw [et]
        rfl
      · rw [et] at h
        exact absurd h (by decide)
      · rw [et] at h
        exact absurd h (by decide)
  have dret : ∀ F k w x, (∀ c, c ≠ 500 → F c = f c) → (∀ j, j < 12 ∨ 15 < j → F 500 j = f 500 j) → F 500 13 = nI q → F 500 14 = nI k → F 500 15 = nI w → k = y_end a m q → q ≤ k → k ≤ m → y_sa a m q = 2 → (k - q ≤ 4 → w = y_num a q (k - q)) → x_J 197 (d + 1) Po 183 [some (.ref 500), some (.int x)] [] (F, g, x_HR r t, dm, n) 0 0 := by
    intro F k w x c1 c2 k3 k4 k5 hk hqk hkm ks hw
    have e0 := dend F k w c1 c2 k3 k4 k5 hk hqk hkm ks hw
    refine x_wp_ok ok197 [0, 39, 81, 128] 6 ?_
    refine And.intro (fun c => ?_) (fun c => ?_)
    · have c : F 500 14 - F 500 13 ≤ 4 := c
      rw [k4, k3] at c
      rw [if_pos c] at e0
      refine And.intro ?_ ⟨trivial, Nat.le_refl _, Nat.le_refl _⟩
      exact e0
    · have c : ¬ F 500 14 - F 500 13 ≤ 4 := c
      rw [k4, k3] at c
      rw [if_neg c] at e0
      refine And.intro ?_ ⟨trivial, Nat.le_refl _, Nat.le_refl _⟩
      exact e0
  have digit : ∀ j k F w x, m - k = j → q ≤ k → k ≤ m → (∀ c, c ≠ 500 → F c = f c) → (∀ j, j < 12 ∨ 15 < j → F 500 j = f 500 j) → F 500 13 = nI q → F 500 14 = nI k → F 500 15 = nI w → w ≤ 100000 → y_sa a m q = 2 → (k - q ≤ 4 → w = y_num a q (k - q)) → y_run (y_iz a m 2) (m - k) k = y_end a m q → x_J 197 (d + 1) Po 128 [some (.ref 500), some (.int x)] [] (F, g, x_HR r t, dm, n) 0 0 := by
    intro j
    induction j with
    | zero =>
      intro k F w x hj hqk hk c1 c2 k3 k4 k5 hw1 ks hw hy
      have a7 : F 507 = a := by rw [ha]; exact c1 507 (by decide)
      have k1 : F 500 11 = nI m := (c2 11 (by decide)).trans h1
      have hno : y_iz a m 2 k = false := y_iz_f (fun q => absurd q.1 (by omega))
      refine x_wp_ok ok197 [0, 39, 81, 128, 183] 6 ?_
      show ∃ P, x_Ct 194 d [.ref 500, .int (F 500 14)] _ P ∧ _
      rw [k4]
      refine Exists.intro _ (And.intro (m_byteAt (k := k) (m := m) k1 hm (by omega)) (And.intro (And.intro (Nat.zero_le _) (Nat.zero_le _)) (fun q h' hpo => ?_)))
      obtain ⟨rfl, rfl⟩ := hpo
      rw [a7]
      refine Exists.intro _ (And.intro m_isDigit (And.intro (And.intro (Nat.zero_le _) (Nat.zero_le _)) (fun q h' hpo => ?_)))
      obtain ⟨rfl, rfl⟩ := hpo
      rw [decide_eq_false (fun h => by rw [y_ba_digit hb, hno] at h; cases h)]
      refine And.intro (fun _ => ?_) (fun c => absurd rfl c)
      exact dret F k w x c1 c2 k3 k4 k5 (by rw [← hy, y_run_f hno]) hqk hk ks hw
    | succ j ih =>
      intro k F w x hj hqk hk c1 c2 k3 k4 k5 hw1 ks hw hy
      have a7 : F 507 = a := by rw [ha]; exact c1 507 (by decide)
      have k1 : F 500 11 = nI m := (c2 11 (by decide)).trans h1
      refine x_wp_ok ok197 [0, 39, 81, 128, 142, 183] 6 ?_
      show ∃ P, x_Ct 194 d [.ref 500, .int (F 500 14)] _ P ∧ _
      rw [k4]
      refine Exists.intro _ (And.intro (m_byteAt (k := k) (m := m) k1 hm (by omega)) (And.intro (And.intro (Nat.zero_le _) (Nat.zero_le _)) (fun q h' hpo => ?_)))
      obtain ⟨rfl, rfl⟩ := hpo
      rw [a7]
      refine Exists.intro _ (And.intro m_isDigit (And.intro (And.intro (Nat.zero_le _) (Nat.zero_le _)) (fun q h' hpo => ?_)))
      obtain ⟨rfl, rfl⟩ := hpo
      cases hno : y_iz a m 2 k with
      | false =>
        rw [decide_eq_false (fun h => by rw [y_ba_digit hb, hno] at h; cases h)]
        refine And.intro (fun _ => ?_) (fun c => absurd rfl c)
        exact dret F k w x c1 c2 k3 k4 k5 (by rw [← hy, y_run_f hno]) hqk hk ks hw
      | true =>
        rw [decide_eq_true ((y_ba_digit hb).mpr hno)]
        refine And.intro (fun c => absurd (show (1 : Int32) = 0 from c) (by decide)) (fun _ => ?_)
        have hlt := y_iz_lt k hno
        have h2 : y_sb (a k) = 2 := by
          unfold y_iz at hno
          rw [Bool.and_eq_true, decide_eq_true_eq, decide_eq_true_eq] at hno
          exact hno.2
        obtain ⟨d1, d2, d3, d4⟩ := y_b_2 (hb k hlt) h2
        have hba : y_ba a m k = nI (a k).toNatClampNeg := by
          unfold y_ba
          rw [if_pos hlt, d4]
          exact d3
        refine x_wp_ok ok197 [0, 39, 81, 128] 6 ?_
        show ∃ P, x_Ct 194 d [.ref 500, .int (F 500 14)] _ P ∧ _
        rw [k4]
        refine Exists.intro _ (And.intro (m_byteAt (k := k) (m := m) k1 hm (by omega)) (And.intro (And.intro (Nat.zero_le _) (Nat.zero_le _)) (fun q h' hpo => ?_)))
        obtain ⟨rfl, rfl⟩ := hpo
        have ev : nI 10 * F 500 15 + y_ba (F 507) m k - nI 48 = nI (10 * w + ((a k).toNatClampNeg - 48)) := by
          rw [k5, a7, hba, pk_mul, nI_add, pk_sub (by omega), Nat.add_sub_assoc d1]
        obtain ⟨u, hu⟩ : ∃ u, u = 10 * w + ((a k).toNatClampNeg - 48) := ⟨_, rfl⟩
        obtain ⟨w', hw'⟩ : ∃ w', w' = if u < 100000 then u else 100000 := ⟨_, rfl⟩
        have emin : (if nI 10 * F 500 15 + y_ba (F 507) m k - nI 48 < nI 100000 then nI 10 * F 500 15 + y_ba (F 507) m k - nI 48 else nI 100000) = nI w' := by
          rw [ev, ← hu, hw']
          by_cases h : u < 100000
          · rw [if_pos h, if_pos ((nI_ltI (by omega) (by omega)).mpr h)]
          · rw [if_neg h, if_neg (fun q => h ((nI_ltI (by omega) (by omega)).mp q))]
        have e0 := ih (k + 1) (x_up (x_up F 500 15 (nI w')) 500 14 (F 500 14 + Int32.ofInt 1)) w' x (by omega) (by omega) (by omega) (fun c hc => (x_up_k hc).trans ((x_up_k hc).trans (c1 c hc))) (fun j hj => (x_up_j (by omega)).trans ((x_up_j (by omega)).trans (c2 j hj))) k3 (by rw [x_up_s, k4, nI_1o]) ((x_up_j (by decide)).trans (x_up_s _ _ _ _)) (by
          rw [hw']
          by_cases h : u < 100000
          · rw [if_pos h]
            omega
          · rw [if_neg h]
            exact Nat.le_refl _) ks (fun h4 => by
          have ew := hw (by omega)
          have h10 := y_num_lt (a := a) (q := q) (k - q) (fun i hi => by
            have e2 := y_end_in (Or.inr ks) hqm (q + i) (by omega) (by
              have := (y_run_sp (P := y_iz a m 2) y_iz_lt (m - k) k rfl hk).1
              rw [hy] at this
              omega)
            rw [ks] at e2
            exact (y_b_2 (hb _ e2.1) e2.2).2.1)
          have h11 : 10 ^ (k - q) ≤ 10 ^ 3 := Nat.pow_le_pow_right (by decide) (by omega)
          have hsm : u < 100000 := by omega
          rw [hw', if_pos hsm, hu, show k + 1 - q = (k - q) + 1 by omega, ew]
          show _ = 10 * y_num a q (k - q) + ((a (q + (k - q))).toNatClampNeg - 48)
          rw [show q + (k - q) = k by omega]) (by rw [← hy, ← y_run_t hno hlt])
        rw [← emin] at e0
        exact e0
  have mid : ∀ F, (∀ c, c ≠ 500 → F c = f c) → (∀ j, j < 12 ∨ 15 < j → F 500 j = f 500 j) → F 500 14 = nI q → x_J 197 (d + 1) Po 39 [some (.ref 500), none] [] (F, g, x_HR r t, dm, n) 0 0 := by
    intro F c1 c2 k4
    have a7 : F 507 = a := by rw [ha]; exact c1 507 (by decide)
    have k1 : F 500 11 = nI m := (c2 11 (by decide)).trans h1
    refine x_wp_ok ok197 [0, 61, 81, 128] 6 ?_
    show ∃ P, x_Ct 194 d [.ref 500, .int (F 500 14)] _ P ∧ _
    rw [k4]
    refine Exists.intro _ (And.intro (m_byteAt (k := q) (m := m) k1 hm (by omega)) (And.intro (And.intro (Nat.zero_le _) (Nat.zero_le _)) (fun q h' hpo => ?_)))
    obtain ⟨rfl, rfl⟩ := hpo
    show x_J 197 (d + 1) Po 61 [some (.ref 500), some (.int (y_ba (F 507) m q))] [] (x_up (x_up F 500 13 (F 500 14)) 500 15 (y_ba (F 507) m q), g, x_HR r t, dm, n) 0 0
    rw [a7, k4]
    obtain ⟨F1, hF1⟩ : ∃ F1, F1 = x_up (x_up F 500 13 (nI q)) 500 15 (y_ba a m q) := ⟨_, rfl⟩
    have w1 : ∀ c, c ≠ 500 → F1 c = f c := by
      intro c hc
      rw [hF1]
      exact (x_up_k hc).trans ((x_up_k hc).trans (c1 c hc))
    have w2 : ∀ j, j < 12 ∨ 15 < j → F1 500 j = f 500 j := by
      intro j hj
      rw [hF1]
      exact (x_up_j (by omega)).trans ((x_up_j (by omega)).trans (c2 j hj))
    have w11 : F1 500 11 = nI m := by rw [hF1]; exact k1
    have w13 : F1 500 13 = nI q := by rw [hF1]; rfl
    have w14 : F1 500 14 = nI q := by rw [hF1]; exact k4
    have w15 : F1 500 15 = y_ba a m q := by rw [hF1]; rfl
    rw [← hF1]
    refine x_wp_ok ok197 [0, 81, 128] 6 ?_
    refine And.intro (fun c => ?_) (fun c => ?_)
    · have c : ¬ y_ba a m q = -1 := c
      rw [y_ba_no hb] at c
      have hlt := y_sa_lt c
      have hba : y_ba a m q = a q &&& 255 := if_pos hlt
      have hsa : y_sa a m q = y_sb (a q) := if_pos hlt
      refine Exists.intro _ (And.intro m_isSmall (And.intro (And.intro (Nat.zero_le _) (Nat.zero_le _)) (fun q h' hpo => ?_)))
      obtain ⟨rfl, rfl⟩ := hpo
      cases hs : y_iz a m 1 q with
      | true =>
        rw [decide_eq_true ((y_ba_small hb).mpr hs)]
        refine And.intro (fun c => absurd (show (1 : Int32) = 0 from c) (by decide)) (fun _ => ?_)
        have ks := (y_iz_sa (by decide)).mp hs
        refine small _ q F1 _ rfl (Nat.le_refl _) hqm w1 w2 w13 w14 ks ?_
        unfold y_end
        rw [ks, if_pos (Or.inl rfl)]
      | false =>
        rw [decide_eq_false (fun h => by rw [y_ba_small hb, hs] at h; cases h)]
        refine And.intro (fun _ => ?_) (fun c => absurd rfl c)
        refine Exists.intro _ (And.intro m_isDigit (And.intro (And.intro (Nat.zero_le _) (Nat.zero_le _)) (fun q h' hpo => ?_)))
        obtain ⟨rfl, rfl⟩ := hpo
        cases hd : y_iz a m 2 q with
        | true =>
          rw [decide_eq_true ((y_ba_digit hb).mpr hd)]
          refine And.intro (fun c => absurd (show (1 : Int32) = 0 from c) (by decide)) (fun _ => ?_)
          have ks := (y_iz_sa (by decide)).mp hd
          refine digit _ q (x_up F1 500 15 0) 0 _ rfl (Nat.le_refl _) hqm (fun c hc => (x_up_k hc).trans (w1 c hc)) (fun j hj => (x_up_j (by omega)).trans (w2 j hj)) w13 w14 (x_up_s _ _ _ _) (Nat.zero_le _) ks (fun _ => by rw [Nat.sub_self]; rfl) ?_
          unfold y_end
          rw [ks, if_pos (Or.inr rfl)]
        | false =>
          rw [decide_eq_false (fun h => by rw [y_ba_digit hb, hd] at h; cases h)]
          refine And.intro (fun _ => ?_) (fun c => absurd rfl c)
          have n1 : y_sa a m q ≠ 1 := fun e => by rw [(y_iz_sa (by decide)).mpr e] at hs; cases hs
          have n2 : y_sa a m q ≠ 2 := fun e => by rw [(y_iz_sa (by decide)).mpr e] at hd; cases hd
          have et := tkn n2
          have ee : y_end a m q = q + 1 := if_neg (fun e => e.elim n1 n2)
          have sgn : (y_ba a m q = 59 ∨ y_ba a m q = 60 ∨ y_ba a m q = 62 ∨ y_ba a m q = 61) → Po none (x_up (x_up F1 500 14 (F1 500 14 + Int32.ofInt 1)) 500 12 4, g, x_HR r t, dm, n) := by
            intro h
            have hh := h
            rw [hba] at h
            have e1 : y_sa a m q = y_ba a m q := by rw [hsa, hba]; exact y_b_sg (hb q hlt) h
            have e4 : y_mk (y_tk a m q) = 4 := by
              rw [et, e1]
              rcases hh with h | h | h | h <;> rw [h] <;> rfl
            rw [hPo]
            refine ⟨rfl, _, rfl, fun c hc => (x_up_k hc).trans ((x_up_k hc).trans (w1 c hc)), fun j hj => (x_up_j (by omega)).trans ((x_up_j (by omega)).trans (w2 j hj)), w11, w13, ?_, fun _ => ?_, fun h => ?_, fun _ => ?_⟩
            · rw [e4]
              rfl
            · show F1 500 14 + Int32.ofInt 1 = _
              rw [ee, w14, nI_1o]
            · rw [et] at h
              exact absurd h n2
            · show F1 500 15 = _
              rw [w15, et, e1]
          have bad : ¬ (y_ba a m q = 59 ∨ y_ba a m q = 60 ∨ y_ba a m q = 62 ∨ y_ba a m q = 61) → Po none (x_up (x_up F1 500 14 (F1 500 14 + Int32.ofInt 1)) 500 12 1, g, x_HR r t, dm, n) := by
            intro h
            rw [hba] at h
            have e1 : y_sa a m q = 4 := by
              rcases y_b_ns (hb q hlt) h with e | e | e | e
              · exact absurd (hsa.trans e) n1
              · exact absurd (hsa.trans e) n2
              · exact hsa.trans e
              · exact absurd (hsa.trans e) hq5
            rw [hPo]
            refine ⟨rfl, _, rfl, fun c hc => (x_up_k hc).trans ((x_up_k hc).trans (w1 c hc)), fun j hj => (x_up_j (by omega)).trans ((x_up_j (by omega)).trans (w2 j hj)), w11, w13, ?_, fun _ => ?_, fun h => ?_, fun h => ?_⟩
            · rw [et, e1]
              rfl
            · show F1 500 14 + Int32.ofInt 1 = _
              rw [ee, w14, nI_1o]
            · rw [et] at h
              exact absurd h n2
            · rw [et, e1] at h
              exact absurd h (by decide)
          refine And.intro (fun k59 => ?_) (fun k59 => ?_)
          · refine And.intro ?_ ⟨trivial, Nat.le_refl _, Nat.le_refl _⟩
            exact sgn (Or.inl k59)
          · have k59 : ¬ y_ba a m q = 59 := k59
            refine And.intro (fun k60 => ?_) (fun k60 => ?_)
            · refine And.intro ?_ ⟨trivial, Nat.le_refl _, Nat.le_refl _⟩
              exact sgn (Or.inr (Or.inl k60))
            · have k60 : ¬ y_ba a m q = 60 := k60
              refine And.intro (fun k62 => ?_) (fun k62 => ?_)
              · refine And.intro ?_ ⟨trivial, Nat.le_refl _, Nat.le_refl _⟩
                exact sgn (Or.inr (Or.inr (Or.inl k62)))
              · have k62 : ¬ y_ba a m q = 62 := k62
                refine And.intro (fun k61 => ?_) (fun k61 => ?_)
                · have k61 : ¬ y_ba a m q = 61 := k61
                  refine And.intro ?_ ⟨trivial, Nat.le_refl _, Nat.le_refl _⟩
                  exact bad (fun h => h.elim k59 (fun h => h.elim k60 (fun h => h.elim k62 k61)))
                · refine And.intro ?_ ⟨trivial, Nat.le_refl _, Nat.le_refl _⟩
                  exact sgn (Or.inr (Or.inr (Or.inr k61)))
    · have c : y_ba a m q = -1 := c
      rw [y_ba_no hb] at c
      have et : y_tk a m q = 3 := y_tk_3.mpr c
      refine And.intro ?_ ⟨trivial, Nat.le_refl _, Nat.le_refl _⟩
      rw [hPo]
      refine ⟨rfl, _, rfl, fun c hc => (x_up_k hc).trans (w1 c hc), fun j hj => (x_up_j (by omega)).trans (w2 j hj), w11, w13, ?_, fun h => absurd c h, fun h => ?_, fun h => ?_⟩
      · rw [et]
        rfl
      · rw [et] at h
        exact absurd h (by decide)
      · rw [et] at h
        exact absurd h (by decide)
  have l1 : ∀ j k F, m - k = j → k ≤ m → (∀ c, c ≠ 500 → F c = f c) → (∀ j, j < 12 ∨ 15 < j → F 500 j = f 500 j) → F 500 14 = nI k → y_skip a m k = q → x_J 197 (d + 1) Po 0 [some (.ref 500), none] [] (F, g, x_HR r t, dm, n) 0 0 := by
    intro j
    induction j with
    | zero =>
      intro k F hj hk c1 c2 k4 hy
      have a7 : F 507 = a := by rw [ha]; exact c1 507 (by decide)
      have k1 : F 500 11 = nI m := (c2 11 (by decide)).trans h1
      have hno : y_iz a m 5 k = false := y_iz_f (fun q => absurd q.1 (by omega))
      have hbl : ¬ (y_ba a m k = 32 ∨ y_ba a m k = 10) := fun h => by rw [y_ba_blank hb, hno] at h; cases h
      have hm' := mid F c1 c2 (by rw [k4, ← hy]; unfold y_skip; rw [y_run_f hno])
      refine x_wp_ok ok197 [0, 13, 39] 6 ?_
      show ∃ P, x_Ct 194 d [.ref 500, .int (F 500 14)] _ P ∧ _
      rw [k4]
      refine Exists.intro _ (And.intro (m_byteAt (k := k) (m := m) k1 hm (by omega)) (And.intro (And.intro (Nat.zero_le _) (Nat.zero_le _)) (fun q h' hpo => ?_)))
      obtain ⟨rfl, rfl⟩ := hpo
      rw [a7]
      refine And.intro (fun c => absurd (Or.inl c) hbl) (fun _ => ?_)
      refine x_wp_ok ok197 [0, 39] 6 ?_
      show ∃ P, x_Ct 194 d [.ref 500, .int (F 500 14)] _ P ∧ _
      rw [k4]
      refine Exists.intro _ (And.intro (m_byteAt (k := k) (m := m) k1 hm (by omega)) (And.intro (And.intro (Nat.zero_le _) (Nat.zero_le _)) (fun q h' hpo => ?_)))
      obtain ⟨rfl, rfl⟩ := hpo
      rw [a7]
      exact And.intro (fun _ => hm') (fun c => absurd (Or.inr c) hbl)
    | succ j ih =>
      intro k F hj hk c1 c2 k4 hy
      have a7 : F 507 = a := by rw [ha]; exact c1 507 (by decide)
      have k1 : F 500 11 = nI m := (c2 11 (by decide)).trans h1
      have yes : (y_ba a m k = 32 ∨ y_ba a m k = 10) → x_J 197 (d + 1) Po 26 [some (.ref 500), none] [] (F, g, x_HR r t, dm, n) 0 0 := by
        intro h
        rw [y_ba_blank hb] at h
        refine x_wp_ok ok197 [0, 39] 6 ?_
        exact ih (k + 1) (x_up F 500 14 (F 500 14 + Int32.ofInt 1)) (by omega) (by omega) (fun c hc => (x_up_k hc).trans (c1 c hc)) (fun j hj => (x_up_j (by omega)).trans (c2 j hj)) (by rw [x_up_s, k4, nI_1o]) (by
          rw [← hy]
          unfold y_skip
          rw [← y_run_t h (y_iz_lt k h)])
      have nay : ¬ (y_ba a m k = 32 ∨ y_ba a m k = 10) → x_J 197 (d + 1) Po 39 [some (.ref 500), none] [] (F, g, x_HR r t, dm, n) 0 0 := by
        intro h
        have hno : y_iz a m 5 k = false := by
          cases e : y_iz a m 5 k with
          | false => rfl
          | true => exact absurd ((y_ba_blank hb).mpr e) h
        exact mid F c1 c2 (by rw [k4, ← hy]; unfold y_skip; rw [y_run_f hno])
      refine x_wp_ok ok197 [0, 13, 26, 39] 6 ?_
      show ∃ P, x_Ct 194 d [.ref 500, .int (F 500 14)] _ P ∧ _
      rw [k4]
      refine Exists.intro _ (And.intro (m_byteAt (k := k) (m := m) k1 hm (by omega)) (And.intro (And.intro (Nat.zero_le _) (Nat.zero_le _)) (fun q h' hpo => ?_)))
      obtain ⟨rfl, rfl⟩ := hpo
      rw [a7]
      refine And.intro (fun c => yes (Or.inl c)) (fun c32 => ?_)
      have c32 : ¬ y_ba a m k = 32 := c32
      refine x_wp_ok ok197 [0, 26, 39] 6 ?_
      show ∃ P, x_Ct 194 d [.ref 500, .int (F 500 14)] _ P ∧ _
      rw [k4]
      refine Exists.intro _ (And.intro (m_byteAt (k := k) (m := m) k1 hm (by omega)) (And.intro (And.intro (Nat.zero_le _) (Nat.zero_le _)) (fun q h' hpo => ?_)))
      obtain ⟨rfl, rfl⟩ := hpo
      rw [a7]
      refine And.intro (fun c => nay (fun h => h.elim c32 c)) (fun c => yes (Or.inr c))
  refine x_Ct_of (by decide) (by decide) ?_
  exact l1 _ p f rfl hp (fun _ _ => rfl) (fun _ _ => rfl) h3 hq.symm
end C85
