/-! THE MODEL: games -/
theorem v_cb_cg {v w : xV} (h : ∀ c i j, c ≠ 17 → w c i j = v c i j) (p i m : Nat) : v_cb w p i m = v_cb v p i m ∧ v_vec w p (v_S w i m) = v_vec v p (v_S v i m) := by
  have e1 : v_w w = v_w v := funext fun i => h 9 i 0 (by decide)
  have e2 : w 13 p = v 13 p := funext fun k => h 13 p k (by decide)
  have e3 : v_S w i m = v_S v i m := by unfold v_S; rw [h 10 i 0 (by decide), h 7 0 0 (by decide)]
  have e4 : w 0 0 0 = v 0 0 0 := h 0 0 0 (by decide)
  unfold v_cb v_few v_vec
  rw [e3, e1, e2, e4, h 11 i 0 (by decide), h 15 p i (by decide)]
  exact ⟨rfl, rfl⟩
theorem v_lead_cg : ∀ (t : Nat) (v w : xV), (∀ c i j, c ≠ 17 → w c i j = v c i j) → ∀ p q, v_lead t w p q = v_lead t v p q
  | 0, _, _, _, _, _ => rfl
  | t + 1, v, w, h, p, q => by
    have e : v_gain (v_lead t) w p q = v_gain (v_lead t) v p q := by
      funext j
      obtain ⟨c1, c2⟩ := v_cb_cg h p j 1
      unfold v_gain
      rw [c1, c2, h 1 0 0 (by decide), h 10 j 0 (by decide), v_lead_cg t v w h q p]
      rw [v_lead_cg t (d_tb v p j 1 (v_vec v p (v_S v j 1))) (d_tb w p j 1 (v_vec v p (v_S v j 1))) (fun a b e ha => by
        rw [d_tb_at, d_tb_at, h 0 0 0 (by decide), h 13 p e (by decide), h 15 p j (by decide), h 11 j 0 (by decide), h a b e ha])]
    show ((y_gm (v_gain (v_lead t) w p q) (w 1 0 0 + 1)).getD (0, 0)).1 = ((y_gm (v_gain (v_lead t) v p q) (v 1 0 0 + 1)).getD (0, 0)).1
    rw [e, h 1 0 0 (by decide)]
def y_its (l : Nat) (s x : Int) : Int := if l % 2 = 0 then s + x else s - x
theorem y_its_ch (l : Nat) (s a y : Int) : y_its (l + 1) (y_its l s a) y = y_its l s (a - y) := by
  unfold y_its
  by_cases h : l % 2 = 0
  · rw [if_pos h, if_pos h, if_neg (by omega)]
    omega
  · rw [if_neg h, if_neg h, if_pos (by omega)]
    omega
def y_cm (l : Nat) (s : Int) (o : Option (Int × Nat)) : Int32 := match o with
  | none => 1000000
  | some c => iI (y_its l s c.1)
def y_gmS (o : Option (Int × Nat)) (x : Int) (j : Nat) : Option (Int × Nat) := match o with
  | none => some (x, j)
  | some c => if x ≤ c.1 then some c else some (x, j)
theorem y_gm_S {γ : Nat → Option Int} {j : Nat} {x : Int} (h : γ j = some x) : y_gm γ (j + 1) = y_gmS (y_gm γ j) x j := by
  rw [y_gm_s h]
  rfl
def x_fr (l : Nat) (F F' : Nat → Nat → Int32) : Prop := (∀ i, i < l → F' 512 i = F 512 i ∧ F' 513 i = F 513 i ∧ F' 514 i = F 514 i) ∧ F' 514 l = F 514 l ∧ (∀ j, 96 ≤ j → j < 2784 + 96 * (l + 1) → F' 501 j = F 501 j) ∧ (∀ k, x_mk k = false → F' k = F k) ∧ (∀ j, j ≠ 31 → F' 500 j = F 500 j) ∧ (l ≠ 0 → F' 500 31 = F 500 31)
theorem x_fr_0 (l : Nat) (F : Nat → Nat → Int32) : x_fr l F F := ⟨fun _ _ => ⟨rfl, rfl, rfl⟩, rfl, fun _ _ _ => rfl, fun _ _ => rfl, fun _ _ => rfl, fun _ => rfl⟩
theorem x_fr_tr {l : Nat} {F F1 F2 : Nat → Nat → Int32} (h : x_fr l F F1) (h' : x_fr l F1 F2) : x_fr l F F2 := by
  obtain ⟨a1, a2, a3, a4, a5, a6⟩ := h
  obtain ⟨b1, b2, b3, b4, b5, b6⟩ := h'
  exact ⟨fun i hi => ⟨(b1 i hi).1.trans (a1 i hi).1, (b1 i hi).2.1.trans (a1 i hi).2.1, (b1 i hi).2.2.trans (a1 i hi).2.2⟩, b2.trans a2, fun j h1 h2 => (b3 j h1 h2).trans (a3 j h1 h2), fun k hk => (b4 k hk).trans (a4 k hk), fun j hj => (b5 j hj).trans (a5 j hj), fun hl => (b6 hl).trans (a6 hl)⟩
theorem x_fr_dn {l : Nat} {F F1 : Nat → Nat → Int32} (h : x_fr (l + 1) F F1) : x_fr l F F1 := by
  obtain ⟨a1, a2, a3, a4, a5, a6⟩ := h
  exact ⟨fun i hi => a1 i (by omega), (a1 l (by omega)).2.2, fun j h1 h2 => a3 j h1 (by omega), a4, a5, fun _ => a6 (by omega)⟩
section C49
variable {f : Nat → Nat → Int32} {g : Nat → Nat → Int64} {r t : Nat} {ρ : Nat → Nat → Option Nat} {dm : List Nat} {n d N : Nat} {v : xV} {h : xH}
theorem m_keeps {b : Nat} (hb : 96 ≤ b) (hb2 : b + 96 ≤ 3168) : x_Ct 302 d [.ref 500, .int (nI b)] (f, g, x_HR r t, dm, n) (fun q h' => q = none ∧ ∃ F, h' = (F, g, x_HR r t, dm, n) ∧ (∀ k, k ≠ 501 → F k = f k) ∧ ∀ j, F 501 j = if b ≤ j ∧ j < b + 96 then f 501 (j - b) else f 501 j) := by
  have loop : ∀ m k F, k + m = 96 → (∀ k, k ≠ 501 → F k = f k) → (∀ j, F 501 j = if b ≤ j ∧ j < b + k then f 501 (j - b) else f 501 j) → x_J 302 d (fun q h' => q = none ∧ ∃ F, h' = (F, g, x_HR r t, dm, n) ∧ (∀ k, k ≠ 501 → F k = f k) ∧ ∀ j, F 501 j = if b ≤ j ∧ j < b + 96 then f 501 (j - b) else f 501 j) 2 [some (.ref 500), some (.int (nI b)), some (.int (nI k))] [] (F, g, x_HR r t, dm, n) 0 0 := by
    intro m
    induction m with
    | zero =>
      intro k F hk h1 h2
      obtain rfl : k = 96 := by omega
      refine x_wp_ok ok302 [2] 4 ?_
      refine And.intro (fun c => ?_) (fun c => ?_)
      · exact And.intro ⟨rfl, F, rfl, h1, h2⟩ ⟨trivial, Nat.le_refl _, Nat.le_refl _⟩
      · exact absurd (show nI 96 ≤ nI 96 by decide) c
    | succ m ih =>
      intro k F hk h1 h2
      refine x_wp_ok ok302 [2] 4 ?_
      refine And.intro (fun c => ?_) (fun c => ?_)
      · have c : nI 96 ≤ nI k := c
        rw [nI_leI (by decide) (by omega)] at c
        omega
      · refine And.intro (x_ix_nI (by omega) (by omega)) ?_
        rw [nI_clamp (by omega)]
        refine And.intro (by show x_ix (nI b + nI k) 3168; rw [nI_add]; exact x_ix_nI (by omega) (by omega)) ?_
        have e := ih (k + 1) (x_up F 501 (b + k) (F 501 k)) (by omega) (fun j hj => by rw [x_up_k hj]; exact h1 j hj) (fun j => by
          by_cases hj : j = b + k
          · subst hj
            rw [x_up_s, h2 k, if_neg (by omega), if_pos (by omega), Nat.add_sub_cancel_left]
          · rw [x_up_j hj, h2 j]
            by_cases hc : b ≤ j ∧ j < b + k
            · rw [if_pos hc, if_pos (by omega)]
            · rw [if_neg hc, if_neg (by omega)])
        rw [nI_succ k, ← nI_clamp (show b + k < 2 ^ 31 by omega), ← nI_add] at e
        exact e
  exact x_Ct_w (by decide) (Nat.le_of_ble_eq_true rfl) ok302 [2] 4 (loop 96 0 f (Nat.zero_add _) (fun _ _ => rfl) (fun j => by rw [if_neg (by omega)]))
theorem m_restores {b : Nat} (hb : 96 ≤ b) (hb2 : b + 96 ≤ 3168) : x_Ct 303 d [.ref 500, .int (nI b)] (f, g, x_HR r t, dm, n) (fun q h' => q = none ∧ ∃ F, h' = (F, g, x_HR r t, dm, n) ∧ (∀ k, k ≠ 501 → F k = f k) ∧ ∀ j, F 501 j = if j < 96 then f 501 (b + j) else f 501 j) := by
  have loop : ∀ m k F, k + m = 96 → (∀ k, k ≠ 501 → F k = f k) → (∀ j, F 501 j = if j < k then f 501 (b + j) else f 501 j) → x_J 303 d (fun q h' => q = none ∧ ∃ F, h' = (F, g, x_HR r t, dm, n) ∧ (∀ k, k ≠ 501 → F k = f k) ∧ ∀ j, F 501 j = if j < 96 then f 501 (b + j) else f 501 j) 2 [some (.ref 500), some (.int (nI b)), some (.int (nI k))] [] (F, g, x_HR r t, dm, n) 0 0 := by
    intro m
    induction m with
    | zero =>
      intro k F hk h1 h2
      obtain rfl : k = 96 := by omega
      refine x_wp_ok ok303 [2] 4 ?_
      refine And.intro (fun c => ?_) (fun c => ?_)
      · exact And.intro ⟨rfl, F, rfl, h1, h2⟩ ⟨trivial, Nat.le_refl _, Nat.le_refl _⟩
      · exact absurd (show nI 96 ≤ nI 96 by decide) c
    | succ m ih =>
      intro k F hk h1 h2
      refine x_wp_ok ok303 [2] 4 ?_
      refine And.intro (fun c => ?_) (fun c => ?_)
      · have c : nI 96 ≤ nI k := c
        rw [nI_leI (by decide) (by omega)] at c
        omega
      · refine And.intro (by show x_ix (nI b + nI k) 3168; rw [nI_add]; exact x_ix_nI (by omega) (by omega)) ?_
        refine And.intro (x_ix_nI (by omega) (by omega)) ?_
        rw [nI_clamp (by omega)]
        have e := ih (k + 1) (x_up F 501 k (F 501 (b + k))) (by omega) (fun j hj => by rw [x_up_k hj]; exact h1 j hj) (fun j => by
          by_cases hj : j = k
          · subst hj
            rw [x_up_s, h2 (b + j), if_neg (by omega), if_pos (by omega)]
          · rw [x_up_j hj, h2 j]
            by_cases hc : j < k
            · rw [if_pos hc, if_pos (by omega)]
            · rw [if_neg hc, if_neg (by omega)])
        rw [nI_succ k, ← nI_clamp (show b + k < 2 ^ 31 by omega), ← nI_add] at e
        exact e
  exact x_Ct_w (by decide) (Nat.le_of_ble_eq_true rfl) ok303 [2] 4 (loop 96 0 f (Nat.zero_add _) (fun _ _ => rfl) (fun j => by rw [if_neg (by omega)]))
theorem m_levelAt {l : Nat} : x_V 304 d [.int (nI l)] h (.int (nI (2784 + 96 * l))) h := by
  refine x_Ct_w (by decide) (Nat.le_of_ble_eq_true rfl) ok304 [] 2 ?_
  exact And.intro ⟨(by show some (Value.int (nI 2784 + nI 96 * nI l)) = _; rw [pk_mul, nI_add]), rfl⟩ ⟨trivial, Nat.le_refl _, Nat.le_refl _⟩
/-- the view is read off any 96 places -/
theorem v_M_mv {a a' : Nat → Int32} {b b' : Nat} (hB : v_B v) (h : v_M a b v) (e : ∀ j, j < 96 → a' (b' + j) = a (b + j)) : v_M a' b' v := by
  refine ⟨fun c i j hv => ?_, by rw [e 9 (by decide)]; exact h.2.1, by rw [e 10 (by decide)]; exact h.2.2⟩
  rw [e _ (v_pm_lt (v_B_K hB) (v_B_G hB) (v_B_P hB) hv).1]
  exact h.1 c i j hv
theorem m_weighs {l j : Nat} {s x : Int} {o : Option (Int × Nat)} (hl : l < 4) (h0 : f 513 l = y_cm l s o) (hs : -1000 ≤ s ∧ s ≤ 1000) (hx : -1000 ≤ x ∧ x ≤ 1000) (ho : ∀ c, o = some c → -1000 ≤ c.1 ∧ c.1 ≤ 1000) (hj : f 512 l = nI j) (h31 : l = 0 → ∀ c, o = some c → f 500 31 = nI c.2) : x_Ct 305 d [.ref 500, .int (nI l), .int (iI (y_its l s x))] (f, g, x_HR r t, dm, n) (fun q h' => q = none ∧ ∃ F, h' = (F, g, x_HR r t, dm, n) ∧ F 513 l = y_cm l s (y_gmS o x j) ∧ (∀ k, k ≠ 500 → k ≠ 513 → F k = f k) ∧ (∀ i, i ≠ l → F 513 i = f 513 i) ∧ (∀ i, i ≠ 31 → F 500 i = f 500 i) ∧ (l ≠ 0 → F 500 31 = f 500 31) ∧ (l = 0 → ∀ c, y_gmS o x j = some c → F 500 31 = nI c.2)) := by
  have bi : ∀ z, -1000 ≤ z ∧ z ≤ 1000 → -2000 ≤ y_its l s z ∧ y_its l s z ≤ 2000 := fun z hz => by
    unfold y_its
    split <;> omega
  have set : y_gmS o x j = some (x, j) → x_J 305 d (fun q h' => q = none ∧ ∃ F, h' = (F, g, x_HR r t, dm, n) ∧ F 513 l = y_cm l s (y_gmS o x j) ∧ (∀ k, k ≠ 500 → k ≠ 513 → F k = f k) ∧ (∀ i, i ≠ l → F 513 i = f 513 i) ∧ (∀ i, i ≠ 31 → F 500 i = f 500 i) ∧ (l ≠ 0 → F 500 31 = f 500 31) ∧ (l = 0 → ∀ c, y_gmS o x j = some c → F 500 31 = nI c.2)) 42 [some (.ref 500), some (.int (nI l)), some (.int (iI (y_its l s x)))] [] (f, g, x_HR r t, dm, n) 0 0 := by
    intro hset
    rw [hset]
    refine x_wp_ok ok305 [] 6 ?_
    refine And.intro (x_ix_nI (by omega) (by omega)) ?_
    rw [nI_clamp (by omega)]
    refine And.intro (fun c => ?_) (fun c => ?_)
    · have c : ¬ nI l = nI 0 := c
      rw [nI_eq (by omega) (by decide)] at c
      refine And.intro ⟨rfl, _, rfl, x_up_s _ _ _ _, fun k _ hk => x_up_k hk, fun i hi => x_up_j hi, fun i _ => congrFun (x_up_k (by decide)) i, fun _ => congrFun (x_up_k (by decide)) 31, fun q => absurd q c⟩ ⟨trivial, Nat.le_refl _, Nat.le_refl _⟩
    · have c : nI l = nI 0 := c
      rw [nI_eq (by omega) (by decide)] at c
      subst c
      refine And.intro (x_ix_nI (j := 0) (by decide) (by decide)) ?_
      refine And.intro ⟨rfl, _, rfl, ?_, fun k h1 hk => ?_, fun i hi => ?_, fun i hi => ?_, fun q => absurd rfl q, fun _ c hc => ?_⟩ ⟨trivial, Nat.le_refl _, Nat.le_refl _⟩
      · show x_up (x_up f 513 0 (iI (y_its 0 s x))) 500 31 _ 513 0 = _
        rw [x_up_k (by decide), x_up_s]
        rfl
      · show x_up (x_up f 513 0 (iI (y_its 0 s x))) 500 31 _ k = _
        rw [x_up_k h1, x_up_k hk]
      · show x_up (x_up f 513 0 (iI (y_its 0 s x))) 500 31 _ 513 i = _
        rw [x_up_k (by decide), x_up_j hi]
      · show x_up (x_up f 513 0 (iI (y_its 0 s x))) 500 31 _ 500 i = _
        rw [x_up_j hi, x_up_k (by decide)]
      · cases hc
        show x_up (x_up f 513 0 (iI (y_its 0 s x))) 500 31 (x_up f 513 0 (iI (y_its 0 s x)) 512 0) 500 31 = _
        rw [x_up_s, x_up_k (by decide)]
        exact hj
  have keep : ∀ c, o = some c → y_gmS o x j = some c → x_J 305 d (fun q h' => q = none ∧ ∃ F, h' = (F, g, x_HR r t, dm, n) ∧ F 513 l = y_cm l s (y_gmS o x j) ∧ (∀ k, k ≠ 500 → k ≠ 513 → F k = f k) ∧ (∀ i, i ≠ l → F 513 i = f 513 i) ∧ (∀ i, i ≠ 31 → F 500 i = f 500 i) ∧ (l ≠ 0 → F 500 31 = f 500 31) ∧ (l = 0 → ∀ c, y_gmS o x j = some c → F 500 31 = nI c.2)) 41 [some (.ref 500), some (.int (nI l)), some (.int (iI (y_its l s x)))] [] (f, g, x_HR r t, dm, n) 0 0 := by
    intro c hc hk
    rw [hk]
    refine x_wp_ok ok305 [] 6 ?_
    exact And.intro ⟨rfl, f, rfl, by rw [h0, hc], fun _ _ _ => rfl, fun _ _ => rfl, fun _ _ => rfl, fun _ => rfl, fun hl0 c' hc' => by cases hc'; exact h31 hl0 c hc⟩ ⟨trivial, Nat.le_refl _, Nat.le_refl _⟩
  refine x_Ct_w (by decide) (Nat.le_of_ble_eq_true rfl) ok305 [41, 42] 6 ?_
  refine And.intro (x_ix_nI (by omega) (by omega)) ?_
  rw [nI_clamp (by omega)]
  cases o with
  | none =>
    refine And.intro (fun c => ?_) (fun c => ?_)
    · exact set rfl
    · have c : ¬ f 513 l = nI 1000000 := c
      rw [h0] at c
      exact absurd rfl c
  | some c =>
    have hc := ho c rfl
    have b1 := bi c.1 hc
    have b2 := bi x hx
    refine And.intro (fun c1 => ?_) (fun c1 => ?_)
    · have c1 : f 513 l = iI 1000000 := c1
      rw [h0] at c1
      have c1 : iI (y_its l s c.1) = iI 1000000 := c1
      rw [iI_eq (by omega) (by omega) (by decide) (by decide)] at c1
      omega
    · refine And.intro (by decide) ?_
      have er : nI l - nI l / nI 2 * nI 2 = nI (l % 2) := pk_rem (by omega) (by decide) (by decide)
      refine And.intro (fun c2 => ?_) (fun c2 => ?_)
      · have c2 : ¬ nI l - nI l / nI 2 * nI 2 = nI 0 := c2
        rw [er, nI_eq (by omega) (by decide)] at c2
        have e1 : ∀ z, y_its l s z = s - z := fun z => if_neg c2
        refine And.intro (x_ix_nI (by omega) (by omega)) ?_
        rw [nI_clamp (by omega)]
        refine And.intro (fun c3 => ?_) (fun c3 => ?_)
        · have c3 : iI (y_its l s x) < f 513 l := c3
          rw [h0] at c3
          have c3 : iI (y_its l s x) < iI (y_its l s c.1) := c3
          rw [iI_lt (by omega) (by omega) (by omega) (by omega), e1, e1] at c3
          exact set (show (if x ≤ c.1 then some c else some (x, j)) = _ from if_neg (by omega))
        · have c3 : ¬ iI (y_its l s x) < f 513 l := c3
          rw [h0] at c3
          have c3 : ¬ iI (y_its l s x) < iI (y_its l s c.1) := c3
          rw [iI_lt (by omega) (by omega) (by omega) (by omega), e1, e1] at c3
          exact keep c rfl (show (if x ≤ c.1 then some c else some (x, j)) = _ from if_pos (by omega))
      · have c2 : nI l - nI l / nI 2 * nI 2 = nI 0 := c2
        rw [er, nI_eq (by omega) (by decide)] at c2
        have e1 : ∀ z, y_its l s z = s + z := fun z => if_pos c2
        refine And.intro (x_ix_nI (by omega) (by omega)) ?_
        rw [nI_clamp (by omega)]
        refine And.intro (fun c3 => ?_) (fun c3 => ?_)
        · have c3 : f 513 l < iI (y_its l s x) := c3
          rw [h0] at c3
          have c3 : iI (y_its l s c.1) < iI (y_its l s x) := c3
          rw [iI_lt (by omega) (by omega) (by omega) (by omega), e1, e1] at c3
          exact set (show (if x ≤ c.1 then some c else some (x, j)) = _ from if_neg (by omega))
        · have c3 : ¬ f 513 l < iI (y_its l s x) := c3
          rw [h0] at c3
          have c3 : ¬ iI (y_its l s c.1) < iI (y_its l s x) := c3
          rw [iI_lt (by omega) (by omega) (by omega) (by omega), e1, e1] at c3
          exact keep c rfl (show (if x ≤ c.1 then some c else some (x, j)) = _ from if_pos (by omega))
end C49
