/-! the model's story shows the lines s -/
def y_om (o : Nat) : Nat := if o ≤ 17 then o else if o ≤ 20 then 1804 + o else o - 3
def x_SM (a : Nat → Int32) (s : xR) (NL : Nat) : Prop := a 11 = nI NL ∧ ∀ k, k < NL → a (96 + 6 * k) = nI (y_om (s 0 k)) ∧ (s 0 k ≤ 15 → a (96 + 6 * k + 1) = nI (s 1 k) ∧ a (96 + 6 * k + 2) = nI (s 2 k) ∧ a (96 + 6 * k + 3) = nI (s 3 k)) ∧ (s 0 k = 16 ∨ s 0 k = 22 → a (96 + 6 * k + 1) = nI (s 3 k)) ∧ (18 ≤ s 0 k ∧ s 0 k ≤ 20 → (s 0 k ≠ 18 → a (96 + 6 * k + 1) = nI (s 1 k)) ∧ a (96 + 6 * k + 2) = nI (s 3 k) ∧ a (96 + 6 * k + 5) = nI (s 5 k)) ∧ (17 < s 0 k → s 0 k ≠ 24 → a (96 + 6 * k + 4) = nI (s 4 k))
theorem x_SM_fr {a a' : Nat → Int32} {s : xR} {NL : Nat} (h : x_SM a s NL) (h1 : a' 11 = a 11) (h2 : ∀ j, 96 ≤ j → a' j = a j) : x_SM a' s NL := by
  refine ⟨h1.trans h.1, fun k hk => ?_⟩
  rw [h2 (96 + 6 * k) (by omega), h2 (96 + 6 * k + 1) (by omega), h2 (96 + 6 * k + 2) (by omega), h2 (96 + 6 * k + 3) (by omega), h2 (96 + 6 * k + 4) (by omega), h2 (96 + 6 * k + 5) (by omega)]
  exact h.2 k hk
theorem y_om_lt {o : Nat} (h : o ≤ 24) : y_om o ≤ 1824 := by
  unfold y_om
  split
  · omega
  · split <;> omega
def x_ME (f F : Nat → Nat → Int32) (v' : xV) (ch mo bo q0 : Nat) : Prop := v_M (F 501) 0 v' ∧ (∀ j, 96 ≤ j → F 501 j = f 501 j) ∧ F 501 11 = f 501 11 ∧ (∀ c, c ≠ 501 → c ≠ 509 → c ≠ 510 → c ≠ 516 → c ≠ 500 → F c = f c) ∧ F 516 1 = nI mo ∧ F 516 2 = nI bo ∧ F 516 3 = nI (v' 16 0 0 - q0) ∧ (∀ j, j ≠ 1 → j ≠ 2 → j ≠ 3 → F 516 j = f 516 j) ∧ F 500 32 = nI ch ∧ ∀ j, j ≠ 32 → F 500 j = f 500 j
def x_PN (f : Nat → Nat → Int32) (g : Nat → Nat → Int64) (ρ : Nat → Nat → Option Nat) (dm : List Nat) (n : Nat) (w : Int32) (v' : xV) (ch mo bo q0 : Nat) : Option Value → xH → Prop := fun q h' => ∃ F, h' = (F, g, ρ, dm, n) ∧ q = some (.int w) ∧ x_ME f F v' ch mo bo q0
theorem s_buy_16 {v : xV} {p i m : Nat} : x_oV v (s_buy v p i m) 16 0 0 = v 16 0 0 := by
  unfold s_buy
  split
  · show d_tb _ p i m _ 16 0 0 = _
    rw [d_tb_c (by decide) (by decide) (by decide), v_set_c (by decide)]
  · rfl
theorem y_q0 {a b q : Nat} (h : q ≤ a) : nI (a - q) + nI b = nI (a + b - q) := by
  rw [nI_add]
  congr 1
  omega
section C61
variable {f : Nat → Nat → Int32} {g : Nat → Nat → Int64} {r t : Nat} {dm : List Nat} {n d N : Nat} {v : xV} {s : xR} {NL ch mo bo q0 : Nat}
theorem x_ME_of {F : Nat → Nat → Int32} {v' : xV} (h : x_ML f F v') (h16 : v' 16 0 0 = v 16 0 0) (h1 : f 516 1 = nI mo) (h2 : f 516 2 = nI bo) (h3 : f 516 3 = nI (v 16 0 0 - q0)) (hc : f 500 32 = nI ch) : x_ME f F v' ch mo bo q0 := by
  have e1 := h.2.2.2 516 (by decide) (by decide) (by decide)
  have e2 := h.2.2.2 500 (by decide) (by decide) (by decide)
  exact ⟨h.1, h.2.1, h.2.2.1, fun c a b c _ _ => h.2.2.2 _ a b c, by rw [e1]; exact h1, by rw [e1]; exact h2, by rw [e1, h16]; exact h3, fun j _ _ _ => by rw [e1], by rw [e2]; exact hc, fun j _ => by rw [e2]⟩
theorem m_draw {m : Nat} (hc : f 500 32 = nI ch) (hch : ch < 65536) (hm : 0 < m) (hm2 : m ≤ 5) : x_V 312 d [.ref 500, .int (nI m)] (f, g, x_HR r t, dm, n) (.int (nI (y_dr ch / 8 % m))) (x_up f 500 32 (nI (y_dr ch)), g, x_HR r t, dm, n) := by
  have e1 : f 500 32 * 3079 + 11299 - (f 500 32 * 3079 + 11299) / 65536 * 65536 = nI (y_dr ch) := by
    rw [hc, show (3079 : Int32) = nI 3079 from rfl, show (11299 : Int32) = nI 11299 from rfl, show (65536 : Int32) = nI 65536 from rfl, pk_mul, nI_add, pk_rem (by omega) (by decide) (by decide)]
    rfl
  have hd : y_dr ch < 65536 := Nat.mod_lt _ (by decide)
  have e2 : nI (y_dr ch) / 8 - nI (y_dr ch) / 8 / nI m * nI m = nI (y_dr ch / 8 % m) := by
    rw [show (8 : Int32) = nI 8 from rfl, pk_div (by omega) (by decide) (by decide), pk_rem (by omega) hm (by omega)]
  refine x_Ct_w (by decide) (Nat.le_of_ble_eq_true rfl) ok312 [] 6 ?_
  refine And.intro (by decide) ?_
  refine And.intro (by decide) ?_
  refine And.intro (nI_ne0 hm (by omega)) ?_
  rw [← e2, ← e1]
  exact And.intro ⟨rfl, rfl⟩ ⟨trivial, Nat.le_refl _, Nat.le_refl _⟩
theorem m_buysBy {p i m : Nat} (hM : v_M (f 501) 0 v) (hB : v_B v) (h1 : f 516 1 = nI mo) (h2 : f 516 2 = nI bo) (h3 : f 516 3 = nI (v 16 0 0 - q0)) (hc : f 500 32 = nI ch) (hp : p < v 2 0 0) (hi : i < v 1 0 0) (hm : m ≤ 999) : x_Ct 313 (d + 5) [.ref 500, .int (nI p), .int (nI i), .int (nI m)] (f, g, x_HR r t, dm, n) (x_PN f g (x_HR r t) dm n (x_oB (s_buy v p i m)) (x_oV v (s_buy v p i m)) ch mo (bo + y_is (s_buy v p i m) m 0) q0) := by
  refine x_Ct_w (by decide) (Nat.le_of_ble_eq_true rfl) ok313 [] 6 ?_
  refine Exists.intro _ (And.intro (m_buys (d := d) hM hB hp hi hm) (And.intro (And.intro (Nat.zero_le _) (Nat.zero_le _)) (fun q h' hpo => ?_)))
  obtain ⟨F, rfl, rfl, hF, _⟩ := hpo
  have hE := x_ME_of (q0 := q0) hF s_buy_16 h1 h2 h3 hc
  refine And.intro (fun c => ?_) (fun c => ?_)
  · have c : ¬ x_oB (s_buy v p i m) = 0 := c
    have c := fun q => c (x_oB_of.1 q)
    have ei : y_is (s_buy v p i m) m 0 = m := by
      cases ho : s_buy v p i m with
      | none => exact absurd ho c
      | some z => rfl
    rw [x_oB_of.2 c, ei]
    refine And.intro (x_ix_nI (j := 2) (by decide) (by decide)) ?_
    refine And.intro (x_ix_nI (j := 2) (by decide) (by decide)) ?_
    refine And.intro ?_ ⟨Or.inr rfl, Nat.le_refl _, Nat.le_refl _⟩
    obtain ⟨a1, a2, a3, a4, a5, a6, a7, a8, a9, a10⟩ := hE
    refine ⟨_, rfl, rfl, a1, a2, a3, fun c q1 q2 q3 q4 q5 => (x_up_k q4).trans (a4 c q1 q2 q3 q4 q5), (x_up_j (by decide)).trans a5, ?_, (x_up_j (by decide)).trans a7, fun j q1 q2 q3 => (x_up_j q2).trans (a8 j q1 q2 q3), a9, a10⟩
    refine (x_up_s _ _ _ _).trans ?_
    show F 516 2 + nI m = _
    rw [a6, nI_add]
  · have c : x_oB (s_buy v p i m) = 0 := c
    have ei : y_is (s_buy v p i m) m 0 = 0 := by
      cases ho : s_buy v p i m with
      | none => rfl
      | some z => rw [ho] at c; exact absurd c (show ¬ (1 : Int32) = 0 by decide)
    rw [c, ei]
    refine And.intro ?_ ⟨Or.inl rfl, Nat.le_refl _, Nat.le_refl _⟩
    exact ⟨F, rfl, rfl, hE⟩
theorem m_paysBy {p i m : Nat} (hM : v_M (f 501) 0 v) (hB : v_B v) (hq : q0 ≤ v 16 0 0) (h1 : f 516 1 = nI mo) (h2 : f 516 2 = nI bo) (h3 : f 516 3 = nI (v 16 0 0 - q0)) (hc : f 500 32 = nI ch) (hp : p < v 2 0 0) (hi : i < v 0 0 0) (hm : m ≤ 999) : x_Ct 314 (d + 5) [.ref 500, .int (nI p), .int (nI i), .int (nI m)] (f, g, x_HR r t, dm, n) (x_PN f g (x_HR r t) dm n (x_oB (s_pay v p i m)) (x_oV v (s_pay v p i m)) ch mo bo q0) := by
  have bK := v_B_K hB
  have bG := v_B_G hB
  have bP := v_B_P hB
  refine x_Ct_w (by decide) (Nat.le_of_ble_eq_true rfl) ok314 [] 6 ?_
  refine Exists.intro _ (And.intro (m_pays (d := d + 2) hM hB hp hi hm) (And.intro (And.intro (Nat.zero_le _) (Nat.zero_le _)) (fun q h' hpo => ?_)))
  obtain ⟨F, rfl, rfl, hF⟩ := hpo
  by_cases hz : 9999 < v 13 p i + m
  · have es : s_pay v p i m = none := if_pos hz
    rw [es] at hF ⊢
    refine And.intro (fun c => absurd rfl c) (fun _ => ?_)
    refine And.intro ?_ ⟨Or.inl rfl, Nat.le_refl _, Nat.le_refl _⟩
    exact ⟨F, rfl, rfl, x_ME_of hF rfl h1 h2 h3 hc⟩
  · have es : s_pay v p i m = some (nI (v 13 p i + m), d_pay v p i m) := if_neg hz
    rw [es] at hF ⊢
    have hF : x_ML f F (d_pay v p i m) := hF
    have e16 : F 516 = f 516 := hF.2.2.2 516 (by decide) (by decide) (by decide)
    have e00 : F 500 = f 500 := hF.2.2.2 500 (by decide) (by decide) (by decide)
    have hw : F 501 (12 + i) = nI (v 9 i 0) := by
      have o9 : v_ok (d_pay v p i m) 9 i 0 := by
        show i < d_pay v p i m 0 0 0 ∧ 0 = 0
        unfold d_pay
        rw [v_set_c (by decide), v_set_c (by decide)]
        exact ⟨hi, rfl⟩
      have := v_M_at hF.1 o9
      rw [show d_pay v p i m 9 i 0 = v 9 i 0 by unfold d_pay; rw [v_set_c (by decide), v_set_c (by decide)]] at this
      exact this
    refine And.intro (fun _ => ?_) (fun c => absurd (show (1 : Int32) = 0 from c) (by decide))
    refine And.intro (x_ix_nI (j := 3) (by decide) (by decide)) ?_
    refine Exists.intro _ (And.intro (m_worthV (k := i) (w := v 9 i 0) (by omega) hw) (And.intro (And.intro (Nat.zero_le _) (Nat.zero_le _)) (fun q h' hpo => ?_)))
    obtain ⟨rfl, rfl⟩ := hpo
    refine And.intro (x_ix_nI (j := 3) (by decide) (by decide)) ?_
    refine And.intro ?_ ⟨Or.inr rfl, Nat.le_refl _, Nat.le_refl _⟩
    refine ⟨_, rfl, rfl, hF.1, hF.2.1, hF.2.2.1, fun c q1 q2 q3 q4 q5 => (x_up_k q4).trans (hF.2.2.2 c q1 q2 q3), ?_, ?_, ?_, fun j q1 q2 q3 => ?_, ?_, fun j _ => ?_⟩
    · exact (x_up_j (by decide)).trans (by rw [e16]; exact h1)
    · exact (x_up_j (by decide)).trans (by rw [e16]; exact h2)
    · refine (x_up_s _ _ _ _).trans ?_
      show F 516 3 + nI m * nI (v 9 i 0) = nI (d_pay v p i m 16 0 0 - q0)
      rw [e16, h3, pk_mul, y_q0 hq, show d_pay v p i m 16 0 0 = v 16 0 0 + m * v 9 i 0 from v_set_s _ _ _ _ _]
    · exact (x_up_j q3).trans (by rw [e16])
    · exact (congrFun (x_up_k (by decide)) _).trans (by rw [e00]; exact hc)
    · exact (congrFun (x_up_k (by decide)) _).trans (by rw [e00])
theorem m_sellsBy {p i m : Nat} (hM : v_M (f 501) 0 v) (hBn : v_Bn N v) (hN : N + 999 < 2 ^ 60) (hq : q0 ≤ v 16 0 0) (h1 : f 516 1 = nI mo) (h2 : f 516 2 = nI bo) (h3 : f 516 3 = nI (v 16 0 0 - q0)) (hc : f 500 32 = nI ch) (hp : p < v 2 0 0) (hi : i < v 1 0 0) (hm : m ≤ 999) : x_Ct 315 (d + 5) [.ref 500, .int (nI p), .int (nI i), .int (nI m)] (f, g, x_HR r t, dm, n) (x_PN f g (x_HR r t) dm n (x_oB (s_sell v p i m)) (x_oV v (s_sell v p i m)) ch mo bo q0) := by
  have hB := v_Bn_B hBn (by omega)
  refine x_Ct_w (by decide) (Nat.le_of_ble_eq_true rfl) ok315 [] 6 ?_
  refine Exists.intro _ (And.intro (m_sells (d := d) hM hB hp hi hm) (And.intro (And.intro (Nat.zero_le _) (Nat.zero_le _)) (fun q h' hpo => ?_)))
  obtain ⟨F, rfl, rfl, hF, _⟩ := hpo
  by_cases hz : v_cs v p i m = true
  · have es : s_sell v p i m = some (nI (v_fewP v (v_S v i m)), d_sell v p i m) := if_pos hz
    rw [es] at hF ⊢
    have hF : x_ML f F (d_sell v p i m) := hF
    have e16 : F 516 = f 516 := hF.2.2.2 516 (by decide) (by decide) (by decide)
    have e00 : F 500 = f 500 := hF.2.2.2 500 (by decide) (by decide) (by decide)
    have hB2 := v_Bn_B (v_Bn_sell hBn hp hi hz) hN
    have ex : ∀ c a b, c ≠ 13 → c ≠ 15 → c ≠ 11 → c ≠ 16 → d_sell v p i m c a b = v c a b := by
      intro c a b q1 q2 q3 q4
      unfold d_sell
      rw [d_ts_c q1 q2 q3, v_set_c q4]
    have es16 : d_sell v p i m 16 0 0 = v 16 0 0 + v_S v i m := by
      unfold d_sell
      rw [d_ts_c (by decide) (by decide) (by decide), v_set_s]
    have hS := (v_cs_at hz).2.2.1
    have pr := m_priceOf (d := d + 3) (g := g) (r := r) (t := t) (dm := dm) (n := n) hF.1 hB2 (i := i) (by rw [ex 1 0 0 (by decide) (by decide) (by decide) (by decide)]; exact hi)
    rw [ex 10 i 0 (by decide) (by decide) (by decide) (by decide), ex 7 0 0 (by decide) (by decide) (by decide) (by decide)] at pr
    refine And.intro (fun _ => ?_) (fun c => absurd (show (1 : Int32) = 0 from c) (by decide))
    refine And.intro (x_ix_nI (j := 3) (by decide) (by decide)) ?_
    refine Exists.intro _ (And.intro pr (And.intro (And.intro (Nat.zero_le _) (Nat.zero_le _)) (fun q h' hpo => ?_)))
    obtain ⟨rfl, rfl⟩ := hpo
    refine And.intro (x_ix_nI (j := 3) (by decide) (by decide)) ?_
    refine And.intro ?_ ⟨Or.inr rfl, Nat.le_refl _, Nat.le_refl _⟩
    refine ⟨_, rfl, rfl, hF.1, hF.2.1, hF.2.2.1, fun c q1 q2 q3 q4 q5 => (x_up_k q4).trans (hF.2.2.2 c q1 q2 q3), ?_, ?_, ?_, fun j q1 q2 q3 => ?_, ?_, fun j _ => ?_⟩
    · exact (x_up_j (by decide)).trans (by rw [e16]; exact h1)
    · exact (x_up_j (by decide)).trans (by rw [e16]; exact h2)
    · refine (x_up_s _ _ _ _).trans ?_
      show F 516 3 + ((nI m).toInt64 * lN (v 10 i 0 * v 7 0 0)).toInt32 = nI (d_sell v p i m 16 0 0 - q0)
      rw [e16, h3, nI_l (by omega), lN_mul, lN_i, y_q0 hq, es16]
      rfl
    · exact (x_up_j q3).trans (by rw [e16])
    · exact (congrFun (x_up_k (by decide)) _).trans (by rw [e00]; exact hc)
    · exact (congrFun (x_up_k (by decide)) _).trans (by rw [e00])
  · have es : s_sell v p i m = none := if_neg hz
    rw [es] at hF ⊢
    refine And.intro (fun c => absurd rfl c) (fun _ => ?_)
    refine And.intro ?_ ⟨Or.inl rfl, Nat.le_refl _, Nat.le_refl _⟩
    exact ⟨F, rfl, rfl, x_ME_of hF rfl h1 h2 h3 hc⟩
theorem m_monthsBy {m : Nat} (hM : v_M (f 501) 0 v) (hBn : v_Bn N v) (hN : N + 2 ^ 30 < 2 ^ 60) (hq : q0 ≤ v 16 0 0) (h1 : f 516 1 = nI mo) (h2 : f 516 2 = nI bo) (h3 : f 516 3 = nI (v 16 0 0 - q0)) (hc : f 500 32 = nI ch) (hm1 : 1 ≤ m) (hm : m ≤ 99) : x_Ct 316 (d + 5) [.ref 500, .int (nI m)] (f, g, x_HR r t, dm, n) (x_PN f g (x_HR r t) dm n (x_oB (s_mn v m)) (x_oV v (s_mn v m)) ch (mo + y_is (s_mn v m) m 0) bo q0) := by
  have hB := v_Bn_B hBn (by omega)
  have o6 : v_ok v 6 0 0 := ⟨rfl, rfl⟩
  have h6 : f 501 6 = nI (v 6 0 0) := v_M_at hM o6
  have b6 : v 6 0 0 ≤ 9999 := (hB.1 6 0 0 o6).2
  have o5 : v_ok v 5 0 0 := ⟨rfl, rfl⟩
  have h5 : f 501 5 = nI (v 5 0 0) := v_M_at hM o5
  have b5 : v 5 0 0 ≤ 999 := (hB.1 5 0 0 o5).2
  by_cases hz : 9999 < v 6 0 0 + m
  · have es : s_mn v m = none := if_pos hz
    rw [es]
    refine x_Ct_w (by decide) (Nat.le_of_ble_eq_true rfl) ok316 [] 6 ?_
    refine And.intro (x_ix_nI (j := 6) (by decide) (by decide)) ?_
    refine And.intro (fun c => ?_) (fun c => ?_)
    · have c : f 501 6 + nI m ≤ nI 9999 := c
      rw [h6, nI_add, nI_leI (by omega) (by omega)] at c
      omega
    · refine And.intro ?_ ⟨Or.inl rfl, Nat.le_refl _, Nat.le_refl _⟩
      exact ⟨f, rfl, rfl, x_ME_of (x_ML_0 hM) rfl h1 h2 h3 hc⟩
  · have es : s_mn v m = some (1, d_mon v m) := if_neg hz
    rw [es]
    have loop : ∀ q j F, j + q = m → x_ML f F (d_mons v j) → x_J 316 (d + 5) (x_PN f g (x_HR r t) dm n 1 (d_mon v m) ch (mo + m) bo q0) 19 [some (.ref 500), some (.int (nI m)), some (.int (nI j))] [] (F, g, x_HR r t, dm, n) 0 0 := by
      intro q
      induction q with
      | zero =>
        intro j F hj hF
        obtain rfl : j = m := by omega
        have hF : x_ML f F (d_mon v j) := by
          unfold d_mons at hF
          rw [if_neg (by omega)] at hF
          exact hF
        have e16 : F 516 = f 516 := hF.2.2.2 516 (by decide) (by decide) (by decide)
        have e00 : F 500 = f 500 := hF.2.2.2 500 (by decide) (by decide) (by decide)
        have es16 : d_mon v j 16 0 0 = v 16 0 0 + j * v 5 0 0 := by
          unfold d_mon
          rw [v_set_c (by decide)]
          exact v_set_s _ _ _ _ _
        have hw : F 501 5 = nI (v 5 0 0) := by
          have := v_M_at hF.1 (c := 5) (i := 0) (j := 0) ⟨rfl, rfl⟩
          rw [show d_mon v j 5 0 0 = v 5 0 0 by unfold d_mon d_mon1; rw [v_set_c (by decide), v_set_c (by decide), v_set_c (by decide), v_set_c (by decide)]] at this
          exact this
        refine x_wp_ok ok316 [19] 6 ?_
        refine And.intro (fun _ => ?_) (fun c => absurd (nI_le (Nat.le_refl j) (by omega)) c)
        refine And.intro (x_ix_nI (j := 1) (by decide) (by decide)) ?_
        refine And.intro (x_ix_nI (j := 1) (by decide) (by decide)) ?_
        refine And.intro (x_ix_nI (j := 3) (by decide) (by decide)) ?_
        refine And.intro (x_ix_nI (j := 5) (by decide) (by decide)) ?_
        refine And.intro (x_ix_nI (j := 3) (by decide) (by decide)) ?_
        refine And.intro ?_ ⟨Or.inr rfl, Nat.le_refl _, Nat.le_refl _⟩
        refine ⟨_, rfl, rfl, hF.1, hF.2.1, hF.2.2.1, fun c q1 q2 q3 q4 q5 => (x_up_k q4).trans ((x_up_k q4).trans (hF.2.2.2 c q1 q2 q3)), ?_, ?_, ?_, fun j q1 q2 q3 => ?_, ?_, fun j _ => ?_⟩
        · refine (x_up_j (by decide)).trans ((x_up_s _ _ _ _).trans ?_)
          show F 516 1 + nI j = _
          rw [e16, h1, nI_add]
        · exact (x_up_j (by decide)).trans ((x_up_j (by decide)).trans (by rw [e16]; exact h2))
        · refine (x_up_s _ _ _ _).trans ?_
          show F 516 3 + nI j * F 501 5 = nI (d_mon v j 16 0 0 - q0)
          rw [e16, h3, hw, pk_mul, y_q0 hq, es16]
        · exact (x_up_j q3).trans ((x_up_j q1).trans (by rw [e16]))
        · exact (congrFun ((x_up_k (by decide)).trans (x_up_k (by decide))) _).trans (by rw [e00]; exact hc)
        · exact (congrFun ((x_up_k (by decide)).trans (x_up_k (by decide))) _).trans (by rw [e00])
      | succ q ih =>
        intro j F hj hF
        have e := fun F' hF' => ih (j + 1) F' (by omega) hF'
        rw [← nI_1o j] at e
        refine x_wp_ok ok316 [19] 6 ?_
        refine And.intro (fun c => ?_) (fun c => ?_)
        · have c : nI m ≤ nI j := c
          exact absurd c (nI_ge (by omega) (by omega))
        · have hd6 := d_mons_6 v j
          refine Exists.intro _ (And.intro (m_monthGoes (d := d + 1) hF.1 (v_Bn_mons hBn (by omega) (by omega) (by omega)) (by omega) (by omega)) (And.intro (And.intro (Nat.zero_le _) (Nat.zero_le _)) (fun q h' hpo => ?_)))
          obtain ⟨F', rfl, rfl, hF'⟩ := hpo
          rw [d_mons_1] at hF'
          exact e F' (x_ML_tr hF hF')
    refine x_Ct_w (by decide) (Nat.le_of_ble_eq_true rfl) ok316 [19] 6 ?_
    refine And.intro (x_ix_nI (j := 6) (by decide) (by decide)) ?_
    refine And.intro (fun c => ?_) (fun c => ?_)
    · exact loop m 0 f (by omega) (x_ML_0 hM)
    · have c : ¬ f 501 6 + nI m ≤ nI 9999 := c
      rw [h6, nI_add, nI_leI (by omega) (by omega)] at c
      omega
theorem x_oB_01 (o : Option (Int32 × xV)) : x_oB o = 0 ∨ x_oB o = 1 := by
  cases o with
  | none => exact Or.inl rfl
  | some z => exact Or.inr rfl
theorem s_tear_16 {p i m : Nat} : x_oV v (s_tear v p i m) 16 0 0 = v 16 0 0 := by
  unfold s_tear
  split
  · rfl
  · show d_tear v p i m 16 0 0 = _
    unfold d_tear
    rw [v_set_c (by decide), v_set_c (by decide)]
theorem s_mend_16 {p i m : Nat} : x_oV v (s_mend v p i m) 16 0 0 = v 16 0 0 := by
  unfold s_mend
  split
  · rfl
  · show d_mend v p i m 16 0 0 = _
    unfold d_mend
    rw [v_set_c (by decide), v_set_c (by decide), v_set_c (by decide)]
theorem m_buysAny {k : Nat} (hM : v_M (f 501) 0 v) (hB : v_B v) (hch : ch < 65536) (h1 : f 516 1 = nI mo) (h2 : f 516 2 = nI bo) (h3 : f 516 3 = nI (v 16 0 0 - q0)) (hc : f 500 32 = nI ch) (hx : s 0 k = 17) : x_Ct 317 (d + 6) [.ref 500] (f, g, x_HR r t, dm, n) (x_PN f g (x_HR r t) dm n (x_oB (y_ac s v ch k)) (x_oV v (y_ac s v ch k)) (y_cc s v ch k) mo (bo + y_is (y_ac s v ch k) 1 0) q0) := by
  have bK := v_B_K hB
  have bG := v_B_G hB
  have bP := v_B_P hB
  have o1q : v_ok v 1 0 0 := ⟨rfl, rfl⟩
  have h1q : f 501 1 = nI (v 1 0 0) := v_M_at hM o1q
  have b1q : v 1 0 0 ≤ 5 := (hB.1 1 0 0 o1q).2
  have o2q : v_ok v 2 0 0 := ⟨rfl, rfl⟩
  have h2q : f 501 2 = nI (v 2 0 0) := v_M_at hM o2q
  have b2q : v 2 0 0 ≤ 5 := (hB.1 2 0 0 o2q).2
  have ea : y_ac s v ch k = (if v 2 0 0 = 0 ∨ v 1 0 0 = 0 then none else s_buy v (y_dr ch / 8 % v 2 0 0) (y_dr (y_dr ch) / 8 % v 1 0 0) 1) := by unfold y_ac; rw [hx]; rfl
  by_cases hz : v 2 0 0 = 0 ∨ v 1 0 0 = 0
  · have ec : y_cc s v ch k = ch := if_neg (fun q => q.2 hz)
    rw [if_pos hz] at ea
    rw [ea, ec]
    refine x_Ct_w (by decide) (Nat.le_of_ble_eq_true rfl) ok317 [] 6 ?_
    refine And.intro (x_ix_nI (j := 2) (by decide) (by decide)) ?_
    refine And.intro (fun c => ?_) (fun c => ?_)
    · refine And.intro ?_ ⟨Or.inl rfl, Nat.le_refl _, Nat.le_refl _⟩
      exact ⟨f, rfl, rfl, x_ME_of (x_ML_0 hM) rfl h1 h2 h3 hc⟩
    · have c : ¬ f 501 2 = nI 0 := c
      rw [h2q, nI_eq (by omega) (by decide)] at c
      refine And.intro (x_ix_nI (j := 1) (by decide) (by decide)) ?_
      refine And.intro (fun c2 => ?_) (fun c2 => ?_)
      · have c2 : ¬ f 501 1 = nI 0 := c2
        rw [h1q, nI_eq (by omega) (by decide)] at c2
        omega
      · refine And.intro ?_ ⟨Or.inl rfl, Nat.le_refl _, Nat.le_refl _⟩
        exact ⟨f, rfl, rfl, x_ME_of (x_ML_0 hM) rfl h1 h2 h3 hc⟩
  · have ec : y_cc s v ch k = y_dr (y_dr ch) := if_pos ⟨hx, hz⟩
    rw [if_neg hz] at ea
    rw [ea, ec]
    refine x_Ct_w (by decide) (Nat.le_of_ble_eq_true rfl) ok317 [] 6 ?_
    refine And.intro (x_ix_nI (j := 2) (by decide) (by decide)) ?_
    refine And.intro (fun c => ?_) (fun c => ?_)
    · have c : f 501 2 = nI 0 := c
      rw [h2q, nI_eq (by omega) (by decide)] at c
      omega
    · refine And.intro (x_ix_nI (j := 1) (by decide) (by decide)) ?_
      refine And.intro (fun c2 => ?_) (fun c2 => ?_)
      · have hd : y_dr ch < 65536 := Nat.mod_lt _ (by decide)
        have c1 := m_draw (d := d + 5) (g := g) (r := r) (t := t) (dm := dm) (n := n) (m := v 2 0 0) hc hch (by omega) (by omega)
        rw [← h2q] at c1
        refine And.intro (x_ix_nI (j := 2) (by decide) (by decide)) ?_
        refine Exists.intro _ (And.intro c1 (And.intro (And.intro (Nat.zero_le _) (Nat.zero_le _)) (fun q h' hpo => ?_)))
        obtain ⟨rfl, rfl⟩ := hpo
        have c3 := m_draw (d := d + 5) (f := x_up f 500 32 (nI (y_dr ch))) (ch := y_dr ch) (g := g) (r := r) (t := t) (dm := dm) (n := n) (m := v 1 0 0) (x_up_s _ _ _ _) hd (by omega) (by omega)
        rw [← h1q, ← (show x_up f 500 32 (nI (y_dr ch)) 501 1 = f 501 1 from rfl)] at c3
        refine And.intro (x_ix_nI (j := 1) (by decide) (by decide)) ?_
        refine Exists.intro _ (And.intro c3 (And.intro (And.intro (Nat.zero_le _) (Nat.zero_le _)) (fun q h' hpo => ?_)))
        obtain ⟨rfl, rfl⟩ := hpo
        obtain ⟨F1, hF1⟩ : ∃ F1, F1 = x_up (x_up f 500 32 (nI (y_dr ch))) 500 32 (nI (y_dr (y_dr ch))) := ⟨_, rfl⟩
        have fn : ∀ c, c ≠ 500 → F1 c = f c := fun c hc => by rw [hF1]; exact (x_up_k hc).trans (x_up_k hc)
        have cl := m_buysBy (d := d) (f := F1) (g := g) (r := r) (t := t) (dm := dm) (n := n) (v := v) (mo := mo) (bo := bo) (q0 := q0) (ch := y_dr (y_dr ch)) (p := y_dr ch / 8 % v 2 0 0) (i := y_dr (y_dr ch) / 8 % v 1 0 0) (m := 1) (by rw [fn 501 (by decide)]; exact hM) hB (by rw [fn 516 (by decide)]; exact h1) (by rw [fn 516 (by decide)]; exact h2) (by rw [fn 516 (by decide)]; exact h3) (by rw [hF1]; exact x_up_s _ _ _ _) (Nat.mod_lt _ (by omega)) (Nat.mod_lt _ (by omega)) (by decide)
        rw [hF1] at cl
        refine Exists.intro _ (And.intro cl (And.intro (And.intro (Nat.zero_le _) (Nat.zero_le _)) (fun q h' hpo => ?_)))
        obtain ⟨F, rfl, rfl, hF⟩ := hpo
        rw [← hF1] at hF
        obtain ⟨a1, a2, a3, a4, a5, a6, a7, a8, a9, a10⟩ := hF
        refine And.intro ?_ ⟨(x_oB_01 _), Nat.le_refl _, Nat.le_refl _⟩
        refine ⟨F, rfl, rfl, a1, fun j q => (a2 j q).trans (by rw [fn 501 (by decide)]), a3.trans (by rw [fn 501 (by decide)]), fun c q1 q2 q3 q4 q5 => (a4 c q1 q2 q3 q4 q5).trans (fn c q5), a5, a6, a7, fun j q1 q2 q3 => (a8 j q1 q2 q3).trans (by rw [fn 516 (by decide)]), a9, fun j q => (a10 j q).trans ?_⟩
        rw [hF1]
        exact (x_up_j q).trans (x_up_j q)
      · have c2 : f 501 1 = nI 0 := c2
        rw [h1q, nI_eq (by omega) (by decide)] at c2
        omega
theorem m_does {k b : Nat} (hM : v_M (f 501) 0 v) (hBn : v_Bn N v) (hN : N + 2 ^ 30 < 2 ^ 60) (hSM : x_SM (f 501) s NL) (hNL : NL ≤ 60) (hk : k < NL) (hli : y_li s (v 2 0 0) (v 0 0 0) (v 1 0 0) k) (he : s 0 k ≠ 23) (hch : ch < 65536) (hb : b = 96 + 6 * k) (hq : q0 ≤ v 16 0 0) (h1 : f 516 1 = nI mo) (h2 : f 516 2 = nI bo) (h3 : f 516 3 = nI (v 16 0 0 - q0)) (hc : f 500 32 = nI ch) : x_Ct 318 (d + 7) [.ref 500, .int (nI b)] (f, g, x_HR r t, dm, n) (x_PN f g (x_HR r t) dm n (x_oB (y_ac s v ch k)) (x_oV v (y_ac s v ch k)) (y_cc s v ch k) (mo + y_mo s v ch k) (bo + y_bo s v ch k) q0) := by
  have hB := v_Bn_B hBn (by omega)
  have bK := v_B_K hB
  have bG := v_B_G hB
  have bP := v_B_P hB
  have h24 := y_li_24 hli
  have hw24 := y_om_lt h24.2
  obtain ⟨w1, w2, w3, w4, w5⟩ := hSM.2 k hk
  rw [← hb] at w1 w2 w3 w4 w5
  have hli0 := hli
  unfold y_li at hli0
  have main : x_J 318 (d + 7) (x_PN f g (x_HR r t) dm n (x_oB (y_ac s v ch k)) (x_oV v (y_ac s v ch k)) (y_cc s v ch k) (mo + y_mo s v ch k) (bo + y_bo s v ch k) q0) 28 [some (.ref 500), some (.int (nI b)), some (.int (f 501 (b + 1))), some (.int (f 501 (b + 2))), some (.int (f 501 (b + 3)))] [] (f, g, x_HR r t, dm, n) 0 0 := by
    have dflt : 18 ≤ s 0 k → s 0 k ≤ 24 → x_J 318 (d + 7) (x_PN f g (x_HR r t) dm n (x_oB (y_ac s v ch k)) (x_oV v (y_ac s v ch k)) (y_cc s v ch k) (mo + y_mo s v ch k) (bo + y_bo s v ch k) q0) 28 [some (.ref 500), some (.int (nI b)), some (.int (f 501 (b + 1))), some (.int (f 501 (b + 2))), some (.int (f 501 (b + 3)))] [] (f, g, x_HR r t, dm, n) 0 0 := by
      intro q1 q2
      have ww : 18 ≤ (f 501 b).toInt := by
        rw [w1, nI_toInt (by omega)]
        unfold y_om
        rw [if_neg (by omega)]
        split <;> omega
      rw [y_ac_d q1, y_cc_d (by omega), y_mo_d (by omega), y_bo_d (by omega) (by omega), Nat.add_zero, Nat.add_zero]
      refine x_wp_ok ok318 [] 6 ?_
      refine And.intro (x_ix_nI (by omega) (by omega)) ?_
      rw [nI_clamp (by omega)]
      refine And.intro (And.intro (fun c => absurd (Int.le_trans ww (Int.le_of_eq c)) (by decide)) (And.intro (fun c => absurd (Int.le_trans ww (Int.le_of_eq c)) (by decide)) (And.intro (fun c => absurd (Int.le_trans ww (Int.le_of_eq c)) (by decide)) (And.intro (fun c => absurd (Int.le_trans ww (Int.le_of_eq c)) (by decide)) (And.intro (fun c => absurd (Int.le_trans ww (Int.le_of_eq c)) (by decide)) (And.intro (fun c => absurd (Int.le_trans ww (Int.le_of_eq c)) (by decide)) (And.intro (fun c => absurd (Int.le_trans ww (Int.le_of_eq c)) (by decide)) trivial))))))) (fun _ => ?_)
      refine And.intro ?_ ⟨Or.inr rfl, Nat.le_refl _, Nat.le_refl _⟩
      exact ⟨f, rfl, rfl, x_ME_of (x_ML_0 hM) rfl h1 h2 h3 hc⟩
    rcases hli0 with ⟨hx | hx | hx, hp, hi, h4, h5⟩ | ⟨hx | hx, hp, hi, h4, h5⟩ | ⟨hx, h4, h5⟩ | (hx | hx) | ⟨hx | ⟨hx, hp⟩ | ⟨hx, hp⟩, h4, h5⟩ | ⟨hx, h4, h5⟩ | hx
    · have ww : (f 501 b).toInt = 11 := by rw [w1, hx]; rfl
      obtain ⟨wp, wi, wm⟩ := w2 (by omega)
      have ea : y_ac s v ch k = s_pay v (s 1 k) (s 2 k) (s 3 k) := by unfold y_ac; rw [hx]; rfl
      rw [wp, wi, wm, ea, y_cc_d (by omega), y_mo_d (by omega), y_bo_d (by omega) (by omega), Nat.add_zero, Nat.add_zero]
      refine x_wp_ok ok318 [] 6 ?_
      refine And.intro (x_ix_nI (by omega) (by omega)) ?_
      rw [nI_clamp (by omega)]
      refine And.intro (And.intro (fun _ => ?_) (And.intro (fun c => absurd (ww.symm.trans c) (by decide)) (And.intro (fun c => absurd (ww.symm.trans c) (by decide)) (And.intro (fun c => absurd (ww.symm.trans c) (by decide)) (And.intro (fun c => absurd (ww.symm.trans c) (by decide)) (And.intro (fun c => absurd (ww.symm.trans c) (by decide)) (And.intro (fun c => absurd (ww.symm.trans c) (by decide)) trivial))))))) (fun c => absurd c (by rw [ww]; decide))
      refine Exists.intro _ (And.intro (m_paysBy (d := d + 1) hM hB hq h1 h2 h3 hc hp hi (by omega)) (And.intro (And.intro (Nat.zero_le _) (Nat.zero_le _)) (fun q h' hpo => ?_)))
      obtain ⟨F, rfl, rfl, hF⟩ := hpo
      refine And.intro ?_ ⟨(x_oB_01 _), Nat.le_refl _, Nat.le_refl _⟩
      exact ⟨F, rfl, rfl, hF⟩
    · have ww : (f 501 b).toInt = 14 := by rw [w1, hx]; rfl
      obtain ⟨wp, wi, wm⟩ := w2 (by omega)
      have ea : y_ac s v ch k = s_tear v (s 1 k) (s 2 k) (s 3 k) := by unfold y_ac; rw [hx]; rfl
      rw [wp, wi, wm, ea, y_cc_d (by omega), y_mo_d (by omega), y_bo_d (by omega) (by omega), Nat.add_zero, Nat.add_zero]
      refine x_wp_ok ok318 [] 6 ?_
      refine And.intro (x_ix_nI (by omega) (by omega)) ?_
      rw [nI_clamp (by omega)]
      refine And.intro (And.intro (fun c => absurd (ww.symm.trans c) (by decide)) (And.intro (fun c => absurd (ww.symm.trans c) (by decide)) (And.intro (fun c => absurd (ww.symm.trans c) (by decide)) (And.intro (fun _ => ?_) (And.intro (fun c => absurd (ww.symm.trans c) (by decide)) (And.intro (fun c => absurd (ww.symm.trans c) (by decide)) (And.intro (fun c => absurd (ww.symm.trans c) (by decide)) trivial))))))) (fun c => absurd c (by rw [ww]; decide))
      refine Exists.intro _ (And.intro (m_tears (d := d + 4) hM hB hp hi (by omega)) (And.intro (And.intro (Nat.zero_le _) (Nat.zero_le _)) (fun q h' hpo => ?_)))
      obtain ⟨F, rfl, rfl, hF⟩ := hpo
      refine And.intro ?_ ⟨(x_oB_01 _), Nat.le_refl _, Nat.le_refl _⟩
      exact ⟨F, rfl, rfl, x_ME_of hF s_tear_16 h1 h2 h3 hc⟩
    · have ww : (f 501 b).toInt = 15 := by rw [w1, hx]; rfl
      obtain ⟨wp, wi, wm⟩ := w2 (by omega)
      have ea : y_ac s v ch k = s_mend v (s 1 k) (s 2 k) (s 3 k) := by unfold y_ac; rw [hx]; rfl
      rw [wp, wi, wm, ea, y_cc_d (by omega), y_mo_d (by omega), y_bo_d (by omega) (by omega), Nat.add_zero, Nat.add_zero]
      refine x_wp_ok ok318 [] 6 ?_
      refine And.intro (x_ix_nI (by omega) (by omega)) ?_
      rw [nI_clamp (by omega)]
      refine And.intro (And.intro (fun c => absurd (ww.symm.trans c) (by decide)) (And.intro (fun c => absurd (ww.symm.trans c) (by decide)) (And.intro (fun c => absurd (ww.symm.trans c) (by decide)) (And.intro (fun c => absurd (ww.symm.trans c) (by decide)) (And.intro (fun _ => ?_) (And.intro (fun c => absurd (ww.symm.trans c) (by decide)) (And.intro (fun c => absurd (ww.symm.trans c) (by decide)) trivial))))))) (fun c => absurd c (by rw [ww]; decide))
      refine Exists.intro _ (And.intro (m_mends (d := d + 4) hM hB hp hi (by omega)) (And.intro (And.intro (Nat.zero_le _) (Nat.zero_le _)) (fun q h' hpo => ?_)))
      obtain ⟨F, rfl, rfl, hF⟩ := hpo
      have hz : ∀ z, s_mend v (s 1 k) (s 2 k) (s 3 k) = some z → ¬ z.1 = -1 := by
        intro z hz
        unfold s_mend at hz
        split at hz
        · cases hz
        · cases hz
          have : d_back v (s 1 k) (s 2 k) (s 3 k) ≤ 9999 - v 13 (s 1 k) (s 2 k) := Nat.min_le_right _ _
          exact x_nIm (by omega)
      refine And.intro (fun c => ?_) (fun c => ?_)
      · have c : x_oW (-1) (s_mend v (s 1 k) (s 2 k) (s 3 k)) = -1 := c
        have c := (x_oW_m1 hz).mp c
        rw [x_oB_of.1 c]
        refine And.intro ?_ ⟨Or.inl rfl, Nat.le_refl _, Nat.le_refl _⟩
        exact ⟨F, rfl, rfl, x_ME_of hF s_mend_16 h1 h2 h3 hc⟩
      · have c : ¬ x_oW (-1) (s_mend v (s 1 k) (s 2 k) (s 3 k)) = -1 := c
        have c := fun q => c ((x_oW_m1 hz).mpr q)
        rw [x_oB_of.2 c]
        refine And.intro ?_ ⟨Or.inr rfl, Nat.le_refl _, Nat.le_refl _⟩
        exact ⟨F, rfl, rfl, x_ME_of hF s_mend_16 h1 h2 h3 hc⟩
    · have ww : (f 501 b).toInt = 12 := by rw [w1, hx]; rfl
      obtain ⟨wp, wi, wm⟩ := w2 (by omega)
      have ea : y_ac s v ch k = s_buy v (s 1 k) (s 2 k) (s 3 k) := by unfold y_ac; rw [hx]; rfl
      have eb : y_bo s v ch k = y_is (s_buy v (s 1 k) (s 2 k) (s 3 k)) (s 3 k) 0 := by
        unfold y_bo
        rw [if_pos hx, ea]
      rw [wp, wi, wm, ea, y_cc_d (by omega), y_mo_d (by omega), eb, Nat.add_zero]
      refine x_wp_ok ok318 [] 6 ?_
      refine And.intro (x_ix_nI (by omega) (by omega)) ?_
      rw [nI_clamp (by omega)]
      refine And.intro (And.intro (fun c => absurd (ww.symm.trans c) (by decide)) (And.intro (fun _ => ?_) (And.intro (fun c => absurd (ww.symm.trans c) (by decide)) (And.intro (fun c => absurd (ww.symm.trans c) (by decide)) (And.intro (fun c => absurd (ww.symm.trans c) (by decide)) (And.intro (fun c => absurd (ww.symm.trans c) (by decide)) (And.intro (fun c => absurd (ww.symm.trans c) (by decide)) trivial))))))) (fun c => absurd c (by rw [ww]; decide))
      refine Exists.intro _ (And.intro (m_buysBy (d := d + 1) hM hB h1 h2 h3 hc hp hi (by omega)) (And.intro (And.intro (Nat.zero_le _) (Nat.zero_le _)) (fun q h' hpo => ?_)))
      obtain ⟨F, rfl, rfl, hF⟩ := hpo
      refine And.intro ?_ ⟨(x_oB_01 _), Nat.le_refl _, Nat.le_refl _⟩
      exact ⟨F, rfl, rfl, hF⟩
    · have ww : (f 501 b).toInt = 13 := by rw [w1, hx]; rfl
      obtain ⟨wp, wi, wm⟩ := w2 (by omega)
      have ea : y_ac s v ch k = s_sell v (s 1 k) (s 2 k) (s 3 k) := by unfold y_ac; rw [hx]; rfl
      rw [wp, wi, wm, ea, y_cc_d (by omega), y_mo_d (by omega), y_bo_d (by omega) (by omega), Nat.add_zero, Nat.add_zero]
      refine x_wp_ok ok318 [] 6 ?_
      refine And.intro (x_ix_nI (by omega) (by omega)) ?_
      rw [nI_clamp (by omega)]
      refine And.intro (And.intro (fun c => absurd (ww.symm.trans c) (by decide)) (And.intro (fun c => absurd (ww.symm.trans c) (by decide)) (And.intro (fun _ => ?_) (And.intro (fun c => absurd (ww.symm.trans c) (by decide)) (And.intro (fun c => absurd (ww.symm.trans c) (by decide)) (And.intro (fun c => absurd (ww.symm.trans c) (by decide)) (And.intro (fun c => absurd (ww.symm.trans c) (by decide)) trivial))))))) (fun c => absurd c (by rw [ww]; decide))
      refine Exists.intro _ (And.intro (m_sellsBy (d := d + 1) hM hBn (by omega) hq h1 h2 h3 hc hp hi (by omega)) (And.intro (And.intro (Nat.zero_le _) (Nat.zero_le _)) (fun q h' hpo => ?_)))
      obtain ⟨F, rfl, rfl, hF⟩ := hpo
      refine And.intro ?_ ⟨(x_oB_01 _), Nat.le_refl _, Nat.le_refl _⟩
      exact ⟨F, rfl, rfl, hF⟩
    · have ww : (f 501 b).toInt = 16 := by rw [w1, hx]; rfl
      have wm := w3 (Or.inl hx)
      have ea : y_ac s v ch k = s_mn v (s 3 k) := by unfold y_ac; rw [hx]; rfl
      have eb : y_mo s v ch k = y_is (s_mn v (s 3 k)) (s 3 k) 0 := by
        unfold y_mo
        rw [if_pos hx, ea]
      rw [wm, ea, y_cc_d (by omega), eb, y_bo_d (by omega) (by omega), Nat.add_zero]
      refine x_wp_ok ok318 [] 6 ?_
      refine And.intro (x_ix_nI (by omega) (by omega)) ?_
      rw [nI_clamp (by omega)]
      refine And.intro (And.intro (fun c => absurd (ww.symm.trans c) (by decide)) (And.intro (fun c => absurd (ww.symm.trans c) (by decide)) (And.intro (fun c => absurd (ww.symm.trans c) (by decide)) (And.intro (fun c => absurd (ww.symm.trans c) (by decide)) (And.intro (fun c => absurd (ww.symm.trans c) (by decide)) (And.intro (fun _ => ?_) (And.intro (fun c => absurd (ww.symm.trans c) (by decide)) trivial))))))) (fun c => absurd c (by rw [ww]; decide))
      refine Exists.intro _ (And.intro (m_monthsBy (d := d + 1) hM hBn hN hq h1 h2 h3 hc h4 (by omega)) (And.intro (And.intro (Nat.zero_le _) (Nat.zero_le _)) (fun q h' hpo => ?_)))
      obtain ⟨F, rfl, rfl, hF⟩ := hpo
      refine And.intro ?_ ⟨(x_oB_01 _), Nat.le_refl _, Nat.le_refl _⟩
      exact ⟨F, rfl, rfl, hF⟩
    · have ww : (f 501 b).toInt = 17 := by rw [w1, hx]; rfl
      have eb : y_bo s v ch k = y_is (y_ac s v ch k) 1 0 := by
        unfold y_bo
        rw [if_neg (by omega), if_pos hx]
      rw [eb, y_mo_d (by omega), Nat.add_zero]
      refine x_wp_ok ok318 [] 6 ?_
      refine And.intro (x_ix_nI (by omega) (by omega)) ?_
      rw [nI_clamp (by omega)]
      refine And.intro (And.intro (fun c => absurd (ww.symm.trans c) (by decide)) (And.intro (fun c => absurd (ww.symm.trans c) (by decide)) (And.intro (fun c => absurd (ww.symm.trans c) (by decide)) (And.intro (fun c => absurd (ww.symm.trans c) (by decide)) (And.intro (fun c => absurd (ww.symm.trans c) (by decide)) (And.intro (fun c => absurd (ww.symm.trans c) (by decide)) (And.intro (fun _ => ?_) trivial))))))) (fun c => absurd c (by rw [ww]; decide))
      refine Exists.intro _ (And.intro (m_buysAny (d := d) (k := k) (s := s) hM hB hch h1 h2 h3 hc hx) (And.intro (And.intro (Nat.zero_le _) (Nat.zero_le _)) (fun q h' hpo => ?_)))
      obtain ⟨F, rfl, rfl, hF⟩ := hpo
      refine And.intro ?_ ⟨(x_oB_01 _), Nat.le_refl _, Nat.le_refl _⟩
      exact ⟨F, rfl, rfl, hF⟩
    · exact dflt (by omega) (by omega)
    · exact dflt (by omega) (by omega)
    · exact dflt (by omega) (by omega)
    · exact dflt (by omega) (by omega)
    · exact dflt (by omega) (by omega)
    · exact absurd hx he
  refine x_Ct_w (by decide) (Nat.le_of_ble_eq_true rfl) ok318 [28] 6 ?_
  have i1 : nI b + nI 1 = nI (b + 1) := nI_add _ _
  have i2 : nI b + nI 2 = nI (b + 2) := nI_add _ _
  have i3 : nI b + nI 3 = nI (b + 3) := nI_add _ _
  refine And.intro (by show x_ix (nI b + nI 1) 3168; rw [i1]; exact x_ix_nI (by omega) (by omega)) ?_
  refine And.intro (by show x_ix (nI b + nI 2) 3168; rw [i2]; exact x_ix_nI (by omega) (by omega)) ?_
  refine And.intro (by show x_ix (nI b + nI 3) 3168; rw [i3]; exact x_ix_nI (by omega) (by omega)) ?_
  rw [← nI_clamp (show b + 1 < 2 ^ 31 by omega), ← nI_clamp (show b + 2 < 2 ^ 31 by omega), ← nI_clamp (show b + 3 < 2 ^ 31 by omega), ← i1, ← i2, ← i3] at main
  exact main
end C61
