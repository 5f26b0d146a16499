/-! the class's reader: cell 10, its bytes 11 -/
theorem x_upu {α : Type} {f : Nat → Nat → α} {c i : Nat} {u w : α} : x_up (x_up f c i u) c i w = x_up f c i w := by
  unfold x_up
  rw [x_us, x_up2, x_up2]
/-- the reader stands at the token that begins at q -/
def y_KC (a : Nat → Int32) (m q : Nat) (F : Nat → Int32) (l : Int64) : Prop := F 1 = nI m ∧ F 2 = nI q ∧ F 4 = y_tk a m q ∧ F 7 = y_tr (y_wm a m q) ∧ (y_sa a m q ≠ 3 → y_sa a m q ≠ 4 → F 3 = nI (y_end a m q)) ∧ (y_sa a m q = 1 → F 6 = nI (y_end a m q - q)) ∧ (y_sa a m q = 1 → y_end a m q - q ≤ 8 → l = y_let a q (y_end a m q - q)) ∧ (y_tk a m q = 2 → F 8 = nI (y_num a q (y_end a m q - q)))
theorem y_num_lt {a : Nat → Int32} {q : Nat} : ∀ n, (∀ k, k < n → (a (q + k)).toNatClampNeg ≤ 57) → y_num a q n < 10 ^ n
  | 0, _ => Nat.one_pos
  | n + 1, h => by
    have h1 := y_num_lt n (fun k hk => h k (by omega))
    have h2 := h n (by omega)
    show 10 * y_num a q n + ((a (q + n)).toNatClampNeg - 48) < 10 ^ (n + 1)
    rw [Nat.pow_succ]
    omega
section C74
variable {f : Nat → Nat → Int32} {g : Nat → Nat → Int64} {r t : Nat} {dm : List Nat} {n d N : Nat} {v : xV} {ρ : Nat → Nat → Option Nat}
theorem c_packWord {q e m : Nat} (h2 : f 10 2 = nI q) (h3 : f 10 3 = nI e) (h7 : f 10 7 = -1) (hq : q ≤ e) (he : e ≤ 900) : x_Ct 83 d [.ref 10] (f, g, x_HR r t, dm, n) (fun z h' => z = none ∧ ∃ F G, h' = (F, G, x_HR r t, dm, n) ∧ (∀ c, c ≠ 10 → F c = f c) ∧ (∀ c, c ≠ 10 → G c = g c) ∧ (∀ j, j ≠ 6 → j ≠ 7 → F 10 j = f 10 j) ∧ F 10 6 = nI (e - q) ∧ F 10 7 = (if e - q ≤ 8 then y_wf (y_let (f 11) q (e - q)) 25 else -1) ∧ (e - q ≤ 8 → G 10 5 = y_let (f 11) q (e - q))) := by
  obtain ⟨Po, hPo⟩ : ∃ Po : Option Value → xH → Prop, Po = (fun z h' => z = none ∧ ∃ F G, h' = (F, G, x_HR r t, dm, n) ∧ (∀ c, c ≠ 10 → F c = f c) ∧ (∀ c, c ≠ 10 → G c = g c) ∧ (∀ j, j ≠ 6 → j ≠ 7 → F 10 j = f 10 j) ∧ F 10 6 = nI (e - q) ∧ F 10 7 = (if e - q ≤ 8 then y_wf (y_let (f 11) q (e - q)) 25 else -1) ∧ (e - q ≤ 8 → G 10 5 = y_let (f 11) q (e - q))) := ⟨_, rfl⟩
  rw [← hPo]
  have hs : f 10 3 - f 10 2 = nI (e - q) := by rw [h3, h2, pk_sub hq]
  have l2 : ∀ j k F G, k + j = 25 → e - q ≤ 8 → (∀ c, c ≠ 10 → F c = f c) → (∀ c, c ≠ 10 → G c = g c) → (∀ j, j ≠ 6 → j ≠ 7 → F 10 j = f 10 j) → F 10 6 = nI (e - q) → F 10 7 = y_wf (y_let (f 11) q (e - q)) k → G 10 5 = y_let (f 11) q (e - q) → x_J 83 d Po 68 [some (.ref 10), some (.int (nI k))] [] (F, G, x_HR r t, dm, n) 0 0 := by
    intro j
    induction j with
    | zero =>
      intro k F G hk h8 c1 c2 c3 c4 c5 c6
      obtain rfl : k = 25 := by omega
      refine x_wp_ok ok83 [33, 68] 6 ?_
      refine And.intro (fun _ => ?_) (fun c => absurd (by decide) c)
      refine And.intro ?_ ⟨trivial, Nat.le_refl _, Nat.le_refl _⟩
      rw [hPo]
      exact ⟨rfl, F, G, rfl, c1, c2, c3, c4, by rw [if_pos h8]; exact c5, fun _ => c6⟩
    | succ j ih =>
      intro k F G hk h8 c1 c2 c3 c4 c5 c6
      refine x_wp_ok ok83 [33, 68] 6 ?_
      refine And.intro (fun c => absurd (show nI 25 ≤ nI k from c) (nI_ge (by omega) (by decide))) (fun _ => ?_)
      refine And.intro (x_ix_nI (by omega) (by omega)) ?_
      rw [nI_clamp (by omega)]
      refine And.intro (fun c => ?_) (fun c => ?_)
      · have c : ¬ lg_cmp (x_wds.getD k 0) (G 10 5) = 0 := c
        rw [x_lg_eq, c6] at c
        have e0 := ih (k + 1) F G (by omega) h8 c1 c2 c3 c4 (c5.trans (if_neg c).symm) c6
        rw [← nI_1o] at e0
        exact e0
      · have c : lg_cmp (x_wds.getD k 0) (G 10 5) = 0 := c
        rw [x_lg_eq, c6] at c
        have e0 := ih (k + 1) (x_up F 10 7 (nI k)) G (by omega) h8 (fun c hc => (x_up_k hc).trans (c1 c hc)) c2 (fun j j6 j7 => (x_up_j j7).trans (c3 j j6 j7)) c4 ((x_up_s _ _ _ _).trans (if_pos c).symm) c6
        rw [← nI_1o] at e0
        exact e0
  have l1 : ∀ j i F G, i + j = e → q ≤ i → e - q ≤ 8 → (∀ c, c ≠ 10 → F c = f c) → (∀ c, c ≠ 10 → G c = g c) → (∀ j, j ≠ 6 → j ≠ 7 → F 10 j = f 10 j) → F 10 6 = nI (e - q) → F 10 7 = -1 → G 10 5 = y_let (f 11) q (i - q) → x_J 83 d Po 33 [some (.ref 10), some (.int (nI i))] [] (F, G, x_HR r t, dm, n) 0 0 := by
    intro j
    induction j with
    | zero =>
      intro i F G hi hqi h8 c1 c2 c3 c4 c5 c6
      obtain rfl : i = e := by omega
      refine x_wp_ok ok83 [33, 68] 6 ?_
      refine And.intro (fun _ => ?_) (fun c => absurd (show F 10 3 ≤ nI i by rw [c3 3 (by decide) (by decide), h3]; exact nI_le (Nat.le_refl _) (by omega)) c)
      exact l2 25 0 F G (by decide) h8 c1 c2 c3 c4 c5 c6
    | succ j ih =>
      intro i F G hi hqi h8 c1 c2 c3 c4 c5 c6
      refine x_wp_ok ok83 [33, 68] 6 ?_
      refine And.intro (fun c => absurd (show F 10 3 ≤ nI i from c) (by rw [c3 3 (by decide) (by decide), h3]; exact nI_ge (by omega) (by omega))) (fun _ => ?_)
      refine And.intro (x_ix_nI (by omega) (by omega)) ?_
      rw [nI_clamp (by omega)]
      have e0 := ih (i + 1) F (x_up G 10 5 ((G 10 5 <<< ((Int8.ofInt 8).toInt32.toInt64 &&& 63)) ||| (F 11 i).toInt64)) (by omega) (by omega) h8 c1 (fun c hc => (x_up_k hc).trans (c2 c hc)) c3 c4 c5 (by
        rw [x_up_s, c6, c1 11 (by decide), show i + 1 - q = (i - q) + 1 by omega]
        show _ = (y_let (f 11) q (i - q) <<< ((Int8.ofInt 8).toInt32.toInt64 &&& 63)) ||| (f 11 (q + (i - q))).toInt64
        rw [show q + (i - q) = i by omega])
      rw [← nI_1o] at e0
      exact e0
  refine x_Ct_w (by decide) (Nat.le_of_ble_eq_true rfl) ok83 [33, 68] 6 ?_
  refine And.intro (fun c => ?_) (fun c => ?_)
  · have c : f 10 3 - f 10 2 ≤ nI 8 := c
    rw [hs, nI_leI (by omega) (by omega)] at c
    have e0 := l1 (e - q) q (x_up f 10 6 (f 10 3 - f 10 2)) (x_up g 10 5 0) (by omega) (Nat.le_refl _) c (fun c hc => x_up_k hc) (fun c hc => x_up_k hc) (fun j j6 _ => x_up_j j6) (by rw [x_up_s, hs]) h7 (by rw [x_up_s, Nat.sub_self]; rfl)
    rw [← h2] at e0
    exact e0
  · have c : ¬ f 10 3 - f 10 2 ≤ nI 8 := c
    rw [hs, nI_leI (by omega) (by omega)] at c
    refine And.intro ?_ ⟨trivial, Nat.le_refl _, Nat.le_refl _⟩
    rw [hPo]
    exact ⟨rfl, _, _, rfl, fun c hc => x_up_k hc, fun c hc => rfl, fun j j6 _ => x_up_j j6, by rw [x_up_s, hs], by rw [if_neg c]; exact h7, fun q => absurd q c⟩
theorem c_packNumber {q e : Nat} (h2 : f 10 2 = nI q) (h3 : f 10 3 = nI e) (hq : q ≤ e) (he : e ≤ 900) (hd : ∀ k, k < e - q → 48 ≤ (f 11 (q + k)).toNatClampNeg ∧ (f 11 (q + k)).toNatClampNeg ≤ 57 ∧ f 11 (q + k) = nI (f 11 (q + k)).toNatClampNeg) : x_Ct 84 d [.ref 10] (f, g, x_HR r t, dm, n) (fun z h' => z = none ∧ ∃ F, h' = (F, g, x_HR r t, dm, n) ∧ (∀ c, c ≠ 10 → F c = f c) ∧ (∀ j, j ≠ 4 → j ≠ 8 → F 10 j = f 10 j) ∧ F 10 4 = (if 4 < e - q then 4 else f 10 4) ∧ (e - q ≤ 4 → F 10 8 = nI (y_num (f 11) q (e - q)))) := by
  obtain ⟨Po, hPo⟩ : ∃ Po : Option Value → xH → Prop, Po = (fun z h' => z = none ∧ ∃ F, h' = (F, g, x_HR r t, dm, n) ∧ (∀ c, c ≠ 10 → F c = f c) ∧ (∀ j, j ≠ 4 → j ≠ 8 → F 10 j = f 10 j) ∧ F 10 4 = (if 4 < e - q then 4 else f 10 4) ∧ (e - q ≤ 4 → F 10 8 = nI (y_num (f 11) q (e - q)))) := ⟨_, rfl⟩
  rw [← hPo]
  have hs : f 10 3 - f 10 2 = nI (e - q) := by rw [h3, h2, pk_sub hq]
  have l1 : ∀ j i F, i + j = e → q ≤ i → e - q ≤ 4 → (∀ c, c ≠ 10 → F c = f c) → (∀ j, j ≠ 8 → F 10 j = f 10 j) → F 10 8 = nI (y_num (f 11) q (i - q)) → x_J 84 d Po 29 [some (.ref 10), some (.int (nI i))] [] (F, g, x_HR r t, dm, n) 0 0 := by
    intro j
    induction j with
    | zero =>
      intro i F hi hqi h8 c1 c2 c3
      obtain rfl : i = e := by omega
      refine x_wp_ok ok84 [29] 6 ?_
      refine And.intro (fun _ => ?_) (fun c => absurd (show F 10 3 ≤ nI i by rw [c2 3 (by decide), h3]; exact nI_le (Nat.le_refl _) (by omega)) c)
      refine And.intro ?_ ⟨trivial, Nat.le_refl _, Nat.le_refl _⟩
      rw [hPo]
      exact ⟨rfl, F, rfl, c1, fun j _ j8 => c2 j j8, by rw [if_neg (by omega)]; exact c2 4 (by decide), fun _ => c3⟩
    | succ j ih =>
      intro i F hi hqi h8 c1 c2 c3
      refine x_wp_ok ok84 [29] 6 ?_
      refine And.intro (fun c => absurd (show F 10 3 ≤ nI i from c) (by rw [c2 3 (by decide), h3]; exact nI_ge (by omega) (by omega))) (fun _ => ?_)
      refine And.intro (x_ix_nI (by omega) (by omega)) ?_
      rw [nI_clamp (by omega)]
      obtain ⟨d1, d2, d3⟩ := hd (i - q) (by omega)
      rw [show q + (i - q) = i by omega] at d1 d2 d3
      have e0 := ih (i + 1) (x_up F 10 8 (F 10 8 * nI 10 + F 11 i - nI 48)) (by omega) (by omega) h8 (fun c hc => (x_up_k hc).trans (c1 c hc)) (fun j j8 => (x_up_j j8).trans (c2 j j8)) (by
        rw [x_up_s, c3, c1 11 (by decide), pk_mul, d3, nI_add, pk_sub (by omega), show i + 1 - q = (i - q) + 1 by omega]
        show _ = nI (10 * y_num (f 11) q (i - q) + ((f 11 (q + (i - q))).toNatClampNeg - 48))
        rw [show q + (i - q) = i by omega, Nat.mul_comm, Nat.add_sub_assoc d1])
      rw [← nI_1o] at e0
      exact e0
  refine x_Ct_w (by decide) (Nat.le_of_ble_eq_true rfl) ok84 [29] 6 ?_
  refine And.intro (fun c => ?_) (fun c => ?_)
  · have c : f 10 3 - f 10 2 ≤ nI 4 := c
    rw [hs, nI_leI (by omega) (by omega)] at c
    have e0 := l1 (e - q) q (x_up f 10 8 0) (by omega) (Nat.le_refl _) c (fun c hc => x_up_k hc) (fun j j8 => x_up_j j8) (by rw [x_up_s, Nat.sub_self]; rfl)
    rw [← h2] at e0
    exact e0
  · have c : ¬ f 10 3 - f 10 2 ≤ nI 4 := c
    rw [hs, nI_leI (by omega) (by omega)] at c
    refine And.intro ?_ ⟨trivial, Nat.le_refl _, Nat.le_refl _⟩
    rw [hPo]
    exact ⟨rfl, _, rfl, fun c hc => x_up_k hc, fun j j4 _ => x_up_j j4, by rw [if_pos (by omega)]; exact x_up_s _ _ _ _, fun q => absurd q c⟩
theorem c_advance {p m : Nat} (h1 : f 10 1 = nI m) (hm : m ≤ 900) (h3 : f 10 3 = nI p) (hp : p ≤ m) (hb : ∀ k, k < m → y_byt (f 11 k)) : x_Ct 82 (d + 1) [.ref 10] (f, g, x_HR r t, dm, n) (fun z h' => z = none ∧ ∃ F G, h' = (F, G, x_HR r t, dm, n) ∧ (∀ c, c ≠ 10 → F c = f c) ∧ (∀ c, c ≠ 10 → G c = g c) ∧ (∀ j, 9 ≤ j → F 10 j = f 10 j) ∧ y_KC (f 11) m (y_skip (f 11) m p) (F 10) (G 10 5)) := by
  obtain ⟨Po, hPo⟩ : ∃ Po : Option Value → xH → Prop, Po = (fun z h' => z = none ∧ ∃ F G, h' = (F, G, x_HR r t, dm, n) ∧ (∀ c, c ≠ 10 → F c = f c) ∧ (∀ c, c ≠ 10 → G c = g c) ∧ (∀ j, 9 ≤ j → F 10 j = f 10 j) ∧ y_KC (f 11) m (y_skip (f 11) m p) (F 10) (G 10 5)) := ⟨_, rfl⟩
  rw [← hPo]
  obtain ⟨a, ha⟩ : ∃ a, a = f 11 := ⟨_, rfl⟩
  obtain ⟨q, hq⟩ : ∃ q, q = y_skip a m p := ⟨_, rfl⟩
  rw [← ha, ← hq] at hPo
  rw [← ha] at hb
  have hqm : q ≤ m := by rw [hq]; exact (y_skip_sp a hp).2
  -- the tail, behind the run of a word or a number
  have tail : ∀ F G, (∀ c, c ≠ 10 → F c = f c) → (∀ c, c ≠ 10 → G c = g c) → (∀ j, 9 ≤ j → F 10 j = f 10 j) → F 10 1 = nI m → F 10 2 = nI q → F 10 4 = y_sa a m q → F 10 7 = -1 → y_sa a m q ≠ 3 → y_sa a m q ≠ 4 → F 10 3 = nI (y_end a m q) → x_J 82 (d + 1) Po 143 [some (.ref 10)] [] (F, G, x_HR r t, dm, n) 0 0 := by
    intro F G c1 c2 c9 k1 k2 k4 k7 n3 n4 k3
    obtain ⟨b1, b2⟩ := y_end_le n3
    have a11 : F 11 = a := by rw [ha]; exact c1 11 (by decide)
    refine x_wp_ok ok82 [0, 36, 104, 143] 6 ?_
    refine And.intro (fun c => ?_) (fun c => ?_)
    · have c : ¬ F 10 4 = 1 := c
      rw [k4] at c
      refine And.intro (fun c2' => ?_) (fun c2' => ?_)
      · have c2' : ¬ F 10 4 = 2 := c2'
        rw [k4] at c2'
        refine And.intro ?_ ⟨trivial, Nat.le_refl _, Nat.le_refl _⟩
        rw [hPo]
        refine ⟨rfl, F, G, rfl, c1, c2, c9, k1, k2, ?_, ?_, fun _ _ => k3, fun q => absurd q c, fun q => absurd q c, fun q => ?_⟩
        · unfold y_tk
          rw [if_neg (fun q => c2' q.1)]
          exact k4
        · unfold y_wm
          rw [if_neg c]
          exact k7
        · unfold y_tk at q
          rw [if_neg (fun q => c2' q.1)] at q
          exact absurd q c2'
      · have c2' : F 10 4 = 2 := c2'
        rw [k4] at c2'
        refine Exists.intro _ (And.intro (c_packNumber (q := q) (e := y_end a m q) k2 k3 (by omega) (by omega) (fun k hk => by rw [a11]; have := y_dgs hb c2' k hk; exact ⟨this.1, this.2.1, this.2.2.1⟩)) (And.intro (And.intro (Nat.zero_le _) (Nat.zero_le _)) (fun q h' hpo => ?_)))
        obtain ⟨rfl, F1, rfl, u1, u2, u3, u4⟩ := hpo
        rw [a11] at u4
        refine And.intro ?_ ⟨trivial, Nat.le_refl _, Nat.le_refl _⟩
        rw [hPo]
        refine ⟨rfl, F1, G, rfl, fun c hc => (u1 c hc).trans (c1 c hc), c2, fun j hj => (u2 j (by omega) (by omega)).trans (c9 j hj), (u2 1 (by decide) (by decide)).trans k1, (u2 2 (by decide) (by decide)).trans k2, ?_, ?_, fun _ _ => (u2 3 (by decide) (by decide)).trans k3, fun q => absurd q c, fun q => absurd q c, fun q2 => ?_⟩
        · rw [u3, k4]
          unfold y_tk
          by_cases w : 4 < y_end a m q - q
          · rw [if_pos w, if_pos ⟨c2', w⟩]
          · rw [if_neg w, if_neg (fun q => w q.2)]
        · rw [u2 7 (by decide) (by decide)]
          unfold y_wm
          rw [if_neg c]
          exact k7
        · refine u4 ?_
          unfold y_tk at q2
          by_cases w : 4 < y_end a m q - q
          · rw [if_pos ⟨c2', w⟩] at q2
            exact absurd q2 (by decide)
          · omega
    · have c : F 10 4 = 1 := c
      rw [k4] at c
      refine Exists.intro _ (And.intro (c_packWord (q := q) (e := y_end a m q) (m := m) k2 k3 k7 (by omega) (by omega)) (And.intro (And.intro (Nat.zero_le _) (Nat.zero_le _)) (fun q h' hpo => ?_)))
      obtain ⟨rfl, F1, G1, rfl, u1, u2, u3, u4, u5, u6⟩ := hpo
      rw [a11] at u5 u6
      refine And.intro ?_ ⟨trivial, Nat.le_refl _, Nat.le_refl _⟩
      rw [hPo]
      refine ⟨rfl, F1, G1, rfl, fun c hc => (u1 c hc).trans (c1 c hc), fun c hc => (u2 c hc).trans (c2 c hc), fun j hj => (u3 j (by omega) (by omega)).trans (c9 j hj), (u3 1 (by decide) (by decide)).trans k1, (u3 2 (by decide) (by decide)).trans k2, ?_, ?_, fun _ _ => (u3 3 (by decide) (by decide)).trans k3, fun _ => u4, fun _ w => u6 w, fun q2 => ?_⟩
      · rw [u3 4 (by decide) (by decide), k4]
        unfold y_tk
        rw [if_neg (fun q => by rw [c] at q; exact absurd q.1 (by decide))]
      · rw [u5]
        exact y_wc_eq hb c
      · unfold y_tk at q2
        rw [if_neg (fun q => by rw [c] at q; exact absurd q.1 (by decide)), c] at q2
        exact absurd q2 (by decide)
  have l2 : ∀ j k F G, m - k = j → k ≤ m → (∀ c, c ≠ 10 → F c = f c) → (∀ c, c ≠ 10 → G c = g c) → (∀ j, 9 ≤ j → F 10 j = f 10 j) → F 10 1 = nI m → F 10 2 = nI q → F 10 4 = y_sa a m q → F 10 7 = -1 → (y_sa a m q = 1 ∨ y_sa a m q = 2) → F 10 3 = nI k → y_run (y_iz a m (y_sa a m q)) (m - k) k = y_end a m q → x_J 82 (d + 1) Po 104 [some (.ref 10)] [] (F, G, x_HR r t, dm, n) 0 0 := by
    intro j
    induction j with
    | zero =>
      intro k F G hj hk c1 c2 c9 k1 k2 k4 k7 n1 k3 hy
      obtain rfl : k = m := by omega
      refine x_wp_ok ok82 [0, 36, 104, 143] 6 ?_
      refine And.intro (fun _ => ?_) (fun c => absurd (show F 10 1 ≤ F 10 3 by rw [k1, k3]; exact nI_le (Nat.le_refl _) (by omega)) c)
      refine tail F G c1 c2 c9 k1 k2 k4 k7 ?_ ?_ ?_
      · rcases n1 with e | e <;> rw [e] <;> decide
      · rcases n1 with e | e <;> rw [e] <;> decide
      · rw [k3, ← hy, y_run_f (y_iz_f (fun q => absurd q.1 (Nat.lt_irrefl _)))]
    | succ j ih =>
      intro k F G hj hk c1 c2 c9 k1 k2 k4 k7 n1 k3 hy
      have a11 : F 11 = a := by rw [ha]; exact c1 11 (by decide)
      have n3 : y_sa a m q ≠ 3 := by rcases n1 with e | e <;> rw [e] <;> decide
      have n4 : y_sa a m q ≠ 4 := by rcases n1 with e | e <;> rw [e] <;> decide
      refine x_wp_ok ok82 [0, 36, 104, 143] 6 ?_
      refine And.intro (fun c => absurd (show F 10 1 ≤ F 10 3 from c) (by rw [k1, k3]; exact nI_ge (by omega) (by omega))) (fun _ => ?_)
      show ∃ P, x_Ct 81 d [.ref 10, .int (F 10 3)] _ P ∧ _
      rw [k3]
      refine Exists.intro _ (And.intro (c_sortAt (k := k) (m := m) k1 hm (by omega)) (And.intro (And.intro (Nat.zero_le _) (Nat.zero_le _)) (fun q h' hpo => ?_)))
      obtain ⟨rfl, rfl⟩ := hpo
      rw [a11]
      refine And.intro (fun c => ?_) (fun c => ?_)
      · have c : ¬ y_sa a m k = F 10 4 := c
        rw [k4] at c
        refine tail F G c1 c2 c9 k1 k2 k4 k7 n3 n4 ?_
        rw [k3, ← hy, y_run_f (y_iz_f (fun q => c q.2))]
      · have c : y_sa a m k = F 10 4 := c
        rw [k4] at c
        have e0 := ih (k + 1) (x_up F 10 3 (F 10 3 + Int32.ofInt 1)) G (by omega) (by omega) (fun c hc => (x_up_k hc).trans (c1 c hc)) c2 (fun j hj => (x_up_j (by omega)).trans (c9 j hj)) k1 k2 k4 k7 n1 (by rw [x_up_s, k3, nI_1o]) (by rw [← hy, ← y_run_t (y_iz_t (by omega) c) (by omega)])
        exact e0
  have mid : ∀ F G, (∀ c, c ≠ 10 → F c = f c) → (∀ c, c ≠ 10 → G c = g c) → (∀ j, 9 ≤ j → F 10 j = f 10 j) → F 10 1 = nI m → F 10 3 = nI q → x_J 82 (d + 1) Po 36 [some (.ref 10)] [] (F, G, x_HR r t, dm, n) 0 0 := by
    intro F G c1 c2 c9 k1 k3
    have a11 : F 11 = a := by rw [ha]; exact c1 11 (by decide)
    refine x_wp_ok ok82 [0, 61, 104, 143] 6 ?_
    show ∃ P, x_Ct 81 d [.ref 10, .int (F 10 3)] _ P ∧ _
    rw [k3]
    refine Exists.intro _ (And.intro (c_sortAt (k := q) (m := m) k1 hm (by omega)) (And.intro (And.intro (Nat.zero_le _) (Nat.zero_le _)) (fun q h' hpo => ?_)))
    obtain ⟨rfl, rfl⟩ := hpo
    show x_J 82 (d + 1) Po 61 [some (.ref 10)] [] (x_up (x_up (x_up F 10 2 (F 10 3)) 10 4 (y_sa (F 11) m q)) 10 7 (-1), G, x_HR r t, dm, n) 0 0
    rw [a11, k3]
    obtain ⟨F1, hF1⟩ : ∃ F1, F1 = x_up (x_up (x_up F 10 2 (nI q)) 10 4 (y_sa a m q)) 10 7 (-1) := ⟨_, rfl⟩
    have w1 : ∀ c, c ≠ 10 → F1 c = f c := by
      intro c hc
      rw [hF1]
      exact (x_up_k hc).trans ((x_up_k hc).trans ((x_up_k hc).trans (c1 c hc)))
    have w9 : ∀ j, 9 ≤ j → F1 10 j = f 10 j := by
      intro j hj
      rw [hF1]
      exact (x_up_j (by omega)).trans ((x_up_j (by omega)).trans ((x_up_j (by omega)).trans (c9 j hj)))
    have w11 : F1 10 1 = nI m := by rw [hF1]; exact k1
    have w12 : F1 10 2 = nI q := by rw [hF1]; rfl
    have w13 : F1 10 3 = nI q := by rw [hF1]; exact k3
    have w14 : F1 10 4 = y_sa a m q := by rw [hF1]; rfl
    have w17 : F1 10 7 = -1 := by rw [hF1]; rfl
    rw [← hF1]
    refine x_wp_ok ok82 [0, 36, 104, 143] 6 ?_
    have fin : (y_sa a m q = 3 ∨ y_sa a m q = 4) → Po none (F1, G, x_HR r t, dm, n) := by
      intro w
      rw [hPo]
      have e1 : y_sa a m q ≠ 1 := by rcases w with e | e <;> rw [e] <;> decide
      have e2 : y_sa a m q ≠ 2 := by rcases w with e | e <;> rw [e] <;> decide
      refine ⟨rfl, F1, G, rfl, w1, c2, w9, w11, w12, ?_, ?_, fun z1 z2 => absurd w (fun w => w.elim z1 z2), fun q => absurd q e1, fun q => absurd q e1, fun q => ?_⟩
      · unfold y_tk
        rw [if_neg (fun q => e2 q.1)]
        exact w14
      · unfold y_wm
        rw [if_neg e1]
        exact w17
      · unfold y_tk at q
        rw [if_neg (fun q => e2 q.1)] at q
        exact absurd q e2
    refine And.intro (fun c => ?_) (fun c => ?_)
    · have c : F1 10 4 = 3 := c
      rw [w14] at c
      refine And.intro ?_ ⟨trivial, Nat.le_refl _, Nat.le_refl _⟩
      exact fin (Or.inl c)
    · have n3 : ¬ F1 10 4 = 3 := c
      rw [w14] at n3
      refine And.intro (fun c => ?_) (fun c => ?_)
      · have n4 : ¬ F1 10 4 = 4 := c
        rw [w14] at n4
        have hlt := y_sa_lt n3
        have hyes : (y_sa a m q = 1 ∨ y_sa a m q = 2) → x_J 82 (d + 1) Po 104 [some (.ref 10)] [] (x_up F1 10 3 (F1 10 3 + Int32.ofInt 1), G, x_HR r t, dm, n) 0 0 := by
          intro n1
          refine l2 _ (q + 1) (x_up F1 10 3 (F1 10 3 + Int32.ofInt 1)) G rfl (by omega) (fun c hc => (x_up_k hc).trans (w1 c hc)) c2 (fun j hj => (x_up_j (by omega)).trans (w9 j hj)) w11 w12 w14 w17 n1 (by rw [x_up_s, w13, nI_1o]) ?_
          rw [← y_run_t (y_iz_t hlt rfl) hlt]
          unfold y_end
          rw [if_pos n1]
        refine And.intro (fun c => ?_) (fun c => ?_)
        · have c : F1 10 4 = 1 := c
          rw [w14] at c
          exact hyes (Or.inl c)
        · have c1' : ¬ F1 10 4 = 1 := c
          rw [w14] at c1'
          refine And.intro (fun c => ?_) (fun c => ?_)
          · have c2' : ¬ F1 10 4 = 2 := c
            rw [w14] at c2'
            refine tail (x_up F1 10 3 (F1 10 3 + Int32.ofInt 1)) G (fun c hc => (x_up_k hc).trans (w1 c hc)) c2 (fun j hj => (x_up_j (by omega)).trans (w9 j hj)) w11 w12 w14 w17 n3 n4 ?_
            rw [x_up_s, w13, nI_1o]
            unfold y_end
            rw [if_neg (fun q => q.elim c1' c2')]
          · have c2' : F1 10 4 = 2 := c
            rw [w14] at c2'
            exact hyes (Or.inr c2')
      · have c : F1 10 4 = 4 := c
        rw [w14] at c
        refine And.intro ?_ ⟨trivial, Nat.le_refl _, Nat.le_refl _⟩
        exact fin (Or.inr c)
  have l1 : ∀ j k F, m - k = j → k ≤ m → (∀ c, c ≠ 10 → F c = f c) → (∀ j, 9 ≤ j → F 10 j = f 10 j) → F 10 1 = nI m → F 10 3 = nI k → y_skip a m k = q → x_J 82 (d + 1) Po 0 [some (.ref 10)] [] (F, g, x_HR r t, dm, n) 0 0 := by
    intro j
    induction j with
    | zero =>
      intro k F hj hk c1 c9 k1 k3 hy
      obtain rfl : k = m := by omega
      refine x_wp_ok ok82 [0, 36, 104, 143] 6 ?_
      refine And.intro (fun _ => ?_) (fun c => absurd (show F 10 1 ≤ F 10 3 by rw [k1, k3]; exact nI_le (Nat.le_refl _) (by omega)) c)
      refine mid F g c1 (fun _ _ => rfl) c9 k1 ?_
      rw [k3, ← hy]
      unfold y_skip
      rw [y_run_f (y_iz_f (fun q => absurd q.1 (Nat.lt_irrefl _)))]
    | succ j ih =>
      intro k F hj hk c1 c9 k1 k3 hy
      have a11 : F 11 = a := by rw [ha]; exact c1 11 (by decide)
      refine x_wp_ok ok82 [0, 36, 104, 143] 6 ?_
      refine And.intro (fun c => absurd (show F 10 1 ≤ F 10 3 from c) (by rw [k1, k3]; exact nI_ge (by omega) (by omega))) (fun _ => ?_)
      show ∃ P, x_Ct 81 d [.ref 10, .int (F 10 3)] _ P ∧ _
      rw [k3]
      refine Exists.intro _ (And.intro (c_sortAt (k := k) (m := m) k1 hm (by omega)) (And.intro (And.intro (Nat.zero_le _) (Nat.zero_le _)) (fun q h' hpo => ?_)))
      obtain ⟨rfl, rfl⟩ := hpo
      rw [a11]
      refine And.intro (fun c => ?_) (fun c => ?_)
      · have c : ¬ y_sa a m k = 5 := c
        refine mid F g c1 (fun _ _ => rfl) c9 k1 ?_
        rw [k3, ← hy]
        unfold y_skip
        rw [y_run_f (y_iz_f (fun q => c q.2))]
      · have c : y_sa a m k = 5 := c
        have e0 := ih (k + 1) (x_up F 10 3 (F 10 3 + Int32.ofInt 1)) (by omega) (by omega) (fun c hc => (x_up_k hc).trans (c1 c hc)) (fun j hj => (x_up_j (by omega)).trans (c9 j hj)) k1 (by rw [x_up_s, k3, nI_1o]) (by
          rw [← hy]
          unfold y_skip
          rw [← y_run_t (y_iz_t (by omega) c) (by omega)])
        exact e0
  refine x_Ct_of (by decide) (by decide) ?_
  exact l1 _ p f rfl hp (fun _ _ => rfl) (fun _ _ => rfl) h1 h3 hq.symm
end C74
