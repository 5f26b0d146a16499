/-! THE TELLER: numbers of a way (pf_ rows began in the kit's laws) -/
theorem pf_lI {a : Nat} (h : a < 2 ^ 63) : (lN a).toInt = (a : Int) := lg_ofNat_toInt h
theorem pf_shr {a d : Nat} {D : Int64} (hD : (D.toBitVec.smod 64).toNat = d) (h : a < 2 ^ 62) : lN a >>> D = lN (a / 2 ^ d) := by
  have hd : a / 2 ^ d ≤ a := Nat.div_le_self _ _
  apply Int64.toInt_inj.mp
  have e : (lN a >>> D).toInt = (lN a).toInt >>> d := by
    rw [← hD]
    exact BitVec.toInt_sshiftRight ..
  rw [e, Int.shiftRight_eq_div_pow, pf_lI (by omega), pf_lI (by omega)]
  rfl
def y_sn (w : Nat) : Nat := (w + 1099511627775) / 1099511627776
def y_sk (w k : Nat) : Nat := (y_sn w * 1099511627776 - w) / 1024 ^ (3 - k) % 1024
/-- only the table of sums has changed; up to s it holds T -/
def x_tb (g G : Nat → Nat → Int64) (T : Nat → Nat) (s : Nat) : Prop := (∀ k, k ≠ 100 → G k = g k) ∧ ∀ j, j ≤ s → G 100 j = lN (T j)
def y_T0 (j : Nat) : Nat := if j = 0 then 0 else 2 ^ 60
theorem x_lg_ge {x y : Int64} : 0 ≤ lg_cmp x y ↔ y ≤ x := by
  rw [← Int32.not_lt, x_lg_lt, Int64.not_lt]
section C33
variable {f : Nat → Nat → Int32} {g : Nat → Nat → Int64} {r t : Nat} {ρ : Nat → Nat → Option Nat} {dm : List Nat} {n d N : Nat} {v : xV} {h : xH}
theorem c_costOf {k : Nat} (hk : k < 4) : x_V 67 d [.int (nI k)] h (.long (lN (y_co k))) h := by
  refine x_Ct_w (by decide) (Nat.le_of_ble_eq_true rfl) ok67 [] 2 ?_
  obtain rfl | rfl | rfl | rfl : k = 0 ∨ k = 1 ∨ k = 2 ∨ k = 3 := by omega
  · exact And.intro ⟨(congrArg (fun z => some (Value.long z)) (by decide +kernel)), rfl⟩ ⟨trivial, Nat.le_refl _, Nat.le_refl _⟩
  · exact And.intro ⟨(congrArg (fun z => some (Value.long z)) (by decide +kernel)), rfl⟩ ⟨trivial, Nat.le_refl _, Nat.le_refl _⟩
  · exact And.intro ⟨(congrArg (fun z => some (Value.long z)) (by decide +kernel)), rfl⟩ ⟨trivial, Nat.le_refl _, Nat.le_refl _⟩
  · exact And.intro ⟨(congrArg (fun z => some (Value.long z)) (by decide +kernel)), rfl⟩ ⟨trivial, Nat.le_refl _, Nat.le_refl _⟩
theorem c_sheetsIn {w : Nat} (hw : w < 2 ^ 61) : x_V 68 d [.long (lN w)] h (.int (nI (y_sn w))) h := by
  refine x_Ct_w (by decide) (Nat.le_of_ble_eq_true rfl) ok68 [] 2 ?_
  refine And.intro (by decide) ?_
  exact And.intro ⟨(by show some (Value.int ((lN w + lN 1099511627776 - lN 1) / lN 1099511627776).toInt32) = _; rw [lN_add, lN_sub (by omega), pk_lDiv (by omega) (by decide) (by decide), lN_i, show w + 1099511627776 - 1 = w + 1099511627775 by omega]; rfl), rfl⟩ ⟨trivial, Nat.le_refl _, Nat.le_refl _⟩
theorem c_sheetsOfKind {w k : Nat} (hw : w < 2 ^ 61) (hk : k < 4) : x_V 69 (d + 1) [.long (lN w), .int (nI k)] h (.int (nI (y_sk w k))) h := by
  have e0 : w ≤ y_sn w * 1099511627776 := by unfold y_sn; omega
  have e1 : y_sn w * 1099511627776 - w < 2 ^ 40 := by unfold y_sn; omega
  have hn : y_sn w < 2 ^ 31 := by unfold y_sn; omega
  have e2 : ∀ (D : Int64) (q : Nat), (D.toBitVec.smod 64).toNat = q → (((nI (y_sn w)).toInt64 * lN 1099511627776 - lN w) >>> D).toInt32 &&& nI 1023 = nI ((y_sn w * 1099511627776 - w) / 2 ^ q % 1024) := by
    intro D q hD
    rw [nI_l hn, lN_mul, lN_sub e0, pf_shr hD (by omega), lN_i, pk_and _ 10 (by decide)]
    congr 1
    show (BitVec.ofNat 32 _).toNat % 1024 = _
    rw [BitVec.toNat_ofNat, Nat.mod_mod_of_dvd _ (by decide)]
  refine x_Ct_w (by decide) (Nat.le_of_ble_eq_true rfl) ok69 [] 2 ?_
  refine Exists.intro _ (And.intro (c_sheetsIn hw) (And.intro (And.intro (Nat.zero_le _) (Nat.zero_le _)) (fun q h' hpo => ?_)))
  obtain ⟨rfl, rfl⟩ := hpo
  obtain rfl | rfl | rfl | rfl : k = 0 ∨ k = 1 ∨ k = 2 ∨ k = 3 := by omega
  · exact And.intro ⟨(congrArg (fun z => some (Value.int z)) (e2 _ 30 (by decide +kernel))), rfl⟩ ⟨trivial, Nat.le_refl _, Nat.le_refl _⟩
  · exact And.intro ⟨(congrArg (fun z => some (Value.int z)) (e2 _ 20 (by decide +kernel))), rfl⟩ ⟨trivial, Nat.le_refl _, Nat.le_refl _⟩
  · exact And.intro ⟨(congrArg (fun z => some (Value.int z)) (e2 _ 10 (by decide +kernel))), rfl⟩ ⟨trivial, Nat.le_refl _, Nat.le_refl _⟩
  · exact And.intro ⟨(congrArg (fun z => some (Value.int z)) (e2 _ 0 (by decide +kernel))), rfl⟩ ⟨trivial, Nat.le_refl _, Nat.le_refl _⟩
theorem c_isPayable {j x : Nat} (hj : j ≤ 999) (hx : g 100 j = lN x) (hx2 : x ≤ 2 ^ 60) : x_V 70 d [.ref 99, .int (nI j)] (f, g, x_HR r t, dm, n) (.int (x_bo (decide (x < 2 ^ 60)))) (f, g, x_HR r t, dm, n) := by
  refine x_Ct_w (by decide) (Nat.le_of_ble_eq_true rfl) ok70 [] 4 ?_
  refine And.intro (x_ix_nI (by omega) (by omega)) ?_
  rw [nI_clamp (by omega)]
  refine And.intro (fun c => ?_) (fun c => ?_)
  · have c : 0 ≤ lg_cmp (g 100 j) (lN 1152921504606846976) := c
    rw [x_lg_ge, hx, pk_lLE (by decide) (by omega)] at c
    exact And.intro ⟨(by rw [decide_eq_false (by omega)]; rfl), rfl⟩ ⟨Or.inl rfl, Nat.le_refl _, Nat.le_refl _⟩
  · have c : ¬ 0 ≤ lg_cmp (g 100 j) (lN 1152921504606846976) := c
    rw [x_lg_ge, hx, pk_lLE (by decide) (by omega)] at c
    exact And.intro ⟨(by rw [decide_eq_true (by omega)]; rfl), rfl⟩ ⟨Or.inr rfl, Nat.le_refl _, Nat.le_refl _⟩
theorem c_beginWays {s : Nat} (hs : s ≤ 999) : x_Ct 71 d [.ref 99, .int (nI s)] (f, g, x_HR r t, dm, n) (fun q h' => q = none ∧ ∃ G, h' = (f, G, x_HR r t, dm, n) ∧ x_tb g G y_T0 s) := by
  have loop : ∀ m i G, i + m = s + 1 → (∀ k, k ≠ 100 → G k = g k) → (∀ j, j < i → G 100 j = lN (2 ^ 60)) → x_J 71 d (fun q h' => q = none ∧ ∃ G, h' = (f, G, x_HR r t, dm, n) ∧ x_tb g G y_T0 s) 2 [some (.ref 99), some (.int (nI s)), some (.int (nI i))] [] (f, G, x_HR r t, dm, n) 0 0 := by
    intro m
    induction m with
    | zero =>
      intro i G hi h1 h2
      refine x_wp_ok ok71 [2] 3 ?_
      refine And.intro (fun c => ?_) (fun c => ?_)
      · refine And.intro (x_ix_nI (j := 0) (by decide) (by decide)) ?_
        refine And.intro ⟨rfl, x_up G 100 0 (lN 0), rfl, fun k hk => ?_, fun j hj => ?_⟩ ⟨trivial, Nat.le_refl _, Nat.le_refl _⟩
        · rw [x_up_k hk]
          exact h1 k hk
        · unfold y_T0
          by_cases e : j = 0
          · subst e
            rw [x_up_s, if_pos rfl]
          · rw [x_up_j e, if_neg e]
            exact h2 j (by omega)
      · have c : ¬ nI s < nI i := c
        rw [nI_ltI (by omega) (by omega)] at c
        omega
    | succ m ih =>
      intro i G hi h1 h2
      refine x_wp_ok ok71 [2] 3 ?_
      refine And.intro (fun c => ?_) (fun c => ?_)
      · have c : nI s < nI i := c
        rw [nI_ltI (by omega) (by omega)] at c
        omega
      · refine And.intro (x_ix_nI (by omega) (by omega)) ?_
        rw [nI_clamp (by omega)]
        have e := ih (i + 1) (x_up G 100 i (lN (2 ^ 60))) (by omega) (fun k hk => by rw [x_up_k hk]; exact h1 k hk) (fun j hj => by
          by_cases e : j = i
          · subst e
            rw [x_up_s]
          · rw [x_up_j e]
            exact h2 j (by omega))
        rw [nI_succ i] at e
        exact e
  exact x_Ct_w (by decide) (Nat.le_of_ble_eq_true rfl) ok71 [2] 3 (loop (s + 1) 0 g (Nat.zero_add _) (fun _ _ => rfl) (fun j hj => by omega))
theorem c_layAlone {W C b s : Nat} {T : Nat → Nat} (hW : 1 ≤ W) (hb : b * W ≤ s) (hs : s ≤ 999) (hT : ∀ j, j ≤ s → g 100 j = lN (T j)) : x_Ct 74 d [.ref 99, .int (nI W), .long (lN C), .int (nI b)] (f, g, x_HR r t, dm, n) (fun q h' => q = none ∧ ∃ G, h' = (f, G, x_HR r t, dm, n) ∧ x_tb g G (fun j => if 1 ≤ j ∧ j % W = 0 ∧ j / W ≤ b then j / W * C else T j) s) := by
  have hbs : b ≤ 999 := by
    have : b * 1 ≤ b * W := Nat.mul_le_mul_left b hW
    omega
  have loop : ∀ m i G, i + m = b + 1 → 1 ≤ i → x_tb g G (fun j => if 1 ≤ j ∧ j % W = 0 ∧ j / W < i then j / W * C else T j) s → x_J 74 d (fun q h' => q = none ∧ ∃ G, h' = (f, G, x_HR r t, dm, n) ∧ x_tb g G (fun j => if 1 ≤ j ∧ j % W = 0 ∧ j / W ≤ b then j / W * C else T j) s) 3 [some (.ref 99), some (.int (nI W)), some (.long (lN C)), none, some (.int (nI b)), some (.int (nI i))] [] (f, G, x_HR r t, dm, n) 0 0 := by
    intro m
    induction m with
    | zero =>
      intro i G hi h1 h2
      obtain rfl : i = b + 1 := by omega
      refine x_wp_ok ok74 [3] 3 ?_
      refine And.intro (fun c => ?_) (fun c => ?_)
      · refine And.intro ⟨rfl, G, rfl, h2.1, fun j hj => ?_⟩ ⟨trivial, Nat.le_refl _, Nat.le_refl _⟩
        rw [h2.2 j hj]
        congr 1
        dsimp only
        have : j / W < b + 1 ↔ j / W ≤ b := Nat.lt_succ_iff
        simp only [this]
      · have c : ¬ nI b < nI (b + 1) := c
        rw [nI_ltI (by omega) (by omega)] at c
        omega
    | succ m ih =>
      intro i G hi h1 h2
      have hib : i * W ≤ b * W := Nat.mul_le_mul_right W (by omega)
      have e1 : i * W / W = i := Nat.mul_div_cancel i hW
      have e2 : i * W % W = 0 := Nat.mul_mod_left i W
      have e3 : 1 ≤ i * W := Nat.mul_le_mul h1 hW
      refine x_wp_ok ok74 [3] 3 ?_
      refine And.intro (fun c => ?_) (fun c => ?_)
      · have c : nI b < nI i := c
        rw [nI_ltI (by omega) (by omega)] at c
        omega
      · refine And.intro (by show x_ix (nI i * nI W) 1000; rw [pk_mul]; exact x_ix_nI (by omega) (by omega)) ?_
        have e := ih (i + 1) (x_up G 100 (i * W) (lN (i * C))) (by omega) (by omega) ⟨fun k hk => by rw [x_up_k hk]; exact h2.1 k hk, fun j hj => by
          by_cases e : j = i * W
          · subst e
            dsimp only
            rw [x_up_s, if_pos ⟨e3, e2, by omega⟩, e1]
          · rw [x_up_j e, h2.2 j hj]
            congr 1
            dsimp only
            by_cases hc : 1 ≤ j ∧ j % W = 0 ∧ j / W < i
            · rw [if_pos hc, if_pos ⟨hc.1, hc.2.1, by omega⟩]
            · rw [if_neg hc, if_neg]
              intro hc2
              refine hc ⟨hc2.1, hc2.2.1, ?_⟩
              have h5 : j / W ≠ i := fun h6 => e (by rw [← h6]; exact (Nat.div_mul_cancel (Nat.dvd_of_mod_eq_zero hc2.2.1)).symm)
              omega⟩
        rw [nI_succ i, ← lN_mul, ← nI_l (show i < 2 ^ 31 by omega), ← nI_clamp (show i * W < 2 ^ 31 by omega), ← pk_mul] at e
        exact e
  refine x_Ct_w (by decide) (Nat.le_of_ble_eq_true rfl) ok74 [3] 3 (loop b 1 g (by omega) (Nat.le_refl _) ⟨fun _ _ => rfl, fun j hj => ?_⟩)
  dsimp only
  rw [if_neg, hT j hj]
  intro hc
  have h5 := Nat.div_mul_cancel (Nat.dvd_of_mod_eq_zero hc.2.1)
  have h6 : j / W = 0 := Nat.lt_one_iff.mp hc.2.2
  rw [h6] at h5
  omega
theorem c_addBundle {W C R s : Nat} {U : Nat → Nat} (hW : 1 ≤ W) (hW2 : W < 2 ^ 31) (hC : C < 2 ^ 60) (hR : R ≤ s) (hs : s ≤ 999) (hU : ∀ j, j ≤ s → g 100 j = lN (U j)) (hU2 : ∀ j, U j ≤ 2 ^ 60) : x_Ct 75 d [.ref 99, .int (nI W), .long (lN C), .int (nI R)] (f, g, x_HR r t, dm, n) (fun q h' => q = none ∧ ∃ G, h' = (f, G, x_HR r t, dm, n) ∧ x_tb g G (fun j => if W ≤ j ∧ j ≤ R then min (U j) (U (j - W) + C) else U j) s) := by
  have loop : ∀ m i G l6, i + 1 ≤ W + m → i ≤ R → x_tb g G (fun j => if W ≤ j ∧ i < j ∧ j ≤ R then min (U j) (U (j - W) + C) else U j) s → x_J 75 d (fun q h' => q = none ∧ ∃ G, h' = (f, G, x_HR r t, dm, n) ∧ x_tb g G (fun j => if W ≤ j ∧ j ≤ R then min (U j) (U (j - W) + C) else U j) s) 4 [some (.ref 99), some (.int (nI W)), some (.long (lN C)), none, some (.int (nI R)), some (.int (nI i)), l6, none] [] (f, G, x_HR r t, dm, n) 0 0 := by
    intro m
    induction m with
    | zero =>
      intro i G l6 hi hiR h2
      refine x_wp_ok ok75 [4] 5 ?_
      refine And.intro (fun c => ?_) (fun c => ?_)
      · refine And.intro ⟨rfl, G, rfl, h2.1, fun j hj => ?_⟩ ⟨trivial, Nat.le_refl _, Nat.le_refl _⟩
        rw [h2.2 j hj]
        congr 1
        dsimp only
        by_cases hc : W ≤ j ∧ j ≤ R
        · rw [if_pos hc, if_pos ⟨hc.1, by omega, hc.2⟩]
        · rw [if_neg hc, if_neg (fun q => hc ⟨q.1, q.2.2⟩)]
      · have c : ¬ nI i < nI W := c
        rw [nI_ltI (by omega) (by omega)] at c
        omega
    | succ m ih =>
      intro i G l6 hi hiR h2
      refine x_wp_ok ok75 [4] 5 ?_
      refine And.intro (fun c => ?_) (fun c => ?_)
      · have c : nI i < nI W := c
        rw [nI_ltI (by omega) (by omega)] at c
        refine And.intro ⟨rfl, G, rfl, h2.1, fun j hj => ?_⟩ ⟨trivial, Nat.le_refl _, Nat.le_refl _⟩
        rw [h2.2 j hj]
        congr 1
        dsimp only
        by_cases hc : W ≤ j ∧ j ≤ R
        · rw [if_pos hc, if_pos ⟨hc.1, by omega, hc.2⟩]
        · rw [if_neg hc, if_neg (fun q => hc ⟨q.1, q.2.2⟩)]
      · have c : ¬ nI i < nI W := c
        rw [nI_ltI (by omega) (by omega)] at c
        obtain ⟨i, rfl⟩ : ∃ i', i = i' + 1 := ⟨i - 1, by omega⟩
        have g1 : G 100 (i + 1 - W) = lN (U (i + 1 - W)) := by rw [h2.2 _ (by omega)]; dsimp only; rw [if_neg (by omega)]
        have g2 : G 100 (i + 1) = lN (U (i + 1)) := by rw [h2.2 _ (by omega)]; dsimp only; rw [if_neg (by omega)]
        have b1 := hU2 (i + 1 - W)
        have b2 := hU2 (i + 1)
        refine And.intro (by show x_ix (nI (i + 1) - nI W) 1000; rw [pk_sub (by omega)]; exact x_ix_nI (by omega) (by omega)) ?_
        rw [pk_sub (by omega), nI_clamp (by omega)]
        refine And.intro (x_ix_nI (by omega) (by omega)) ?_
        rw [nI_clamp (by omega)]
        refine And.intro (fun c2 => ?_) (fun c2 => ?_)
        · have c2 : 0 ≤ lg_cmp (G 100 (i + 1 - W) + lN C) (G 100 (i + 1)) := c2
          rw [x_lg_ge, g1, g2, lN_add, pk_lLE (by omega) (by omega)] at c2
          have e := ih i G (some (.long (G 100 (i + 1 - W) + lN C))) (by omega) (by omega) ⟨h2.1, fun j hj => by
            rw [h2.2 j hj]
            congr 1
            dsimp only
            by_cases hj : j = i + 1
            · subst hj
              rw [if_neg (by omega), if_pos ⟨by omega, by omega, by omega⟩, Nat.min_eq_left c2]
            · by_cases hc : W ≤ j ∧ i + 1 < j ∧ j ≤ R
              · rw [if_pos hc, if_pos ⟨hc.1, by omega, hc.2.2⟩]
              · rw [if_neg hc, if_neg (by omega)]⟩
          rw [← pk_m1 i] at e
          exact e
        · have c2 : ¬ 0 ≤ lg_cmp (G 100 (i + 1 - W) + lN C) (G 100 (i + 1)) := c2
          rw [x_lg_ge, g1, g2, lN_add, pk_lLE (by omega) (by omega)] at c2
          refine And.intro (x_ix_nI (by omega) (by omega)) ?_
          rw [nI_clamp (by omega)]
          have e := ih i (x_up G 100 (i + 1) (G 100 (i + 1 - W) + lN C)) (some (.long (G 100 (i + 1 - W) + lN C))) (by omega) (by omega) ⟨fun k hk => by rw [x_up_k hk]; exact h2.1 k hk, fun j hj => by
            by_cases hj1 : j = i + 1
            · subst hj1
              dsimp only
              rw [x_up_s, if_pos ⟨by omega, by omega, by omega⟩, g1, lN_add, Nat.min_eq_right (by omega)]
            · rw [x_up_j hj1, h2.2 j hj]
              congr 1
              dsimp only
              by_cases hc : W ≤ j ∧ i + 1 < j ∧ j ≤ R
              · rw [if_pos hc, if_pos ⟨hc.1, by omega, hc.2.2⟩]
              · rw [if_neg hc, if_neg (by omega)]⟩
          rw [← pk_m1 i] at e
          exact e
  refine x_Ct_w (by decide) (Nat.le_of_ble_eq_true rfl) ok75 [4] 5 (loop (R + 1) R g none (by omega) (Nat.le_refl _) ⟨fun _ _ => rfl, fun j hj => ?_⟩)
  dsimp only
  rw [if_neg (by omega), hU j hj]
end C33
