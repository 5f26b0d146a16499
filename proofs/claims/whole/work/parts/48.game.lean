/-! GAMES -/
def iI (z : Int) : Int32 := Int32.ofInt z
theorem iI_T {a : Int} (h1 : -2147483648 ≤ a) (h2 : a < 2147483648) : (iI a).toInt = a := Int32.toInt_ofInt_of_le h1 h2
theorem iI_lt {a b : Int} (h1 : -2147483648 ≤ a) (h2 : a < 2147483648) (h3 : -2147483648 ≤ b) (h4 : b < 2147483648) : iI a < iI b ↔ a < b := by rw [x_lt, iI_T h1 h2, iI_T h3 h4]
theorem iI_le {a b : Int} (h1 : -2147483648 ≤ a) (h2 : a < 2147483648) (h3 : -2147483648 ≤ b) (h4 : b < 2147483648) : iI a ≤ iI b ↔ a ≤ b := by rw [x_le, iI_T h1 h2, iI_T h3 h4]
theorem iI_eq {a b : Int} (h1 : -2147483648 ≤ a) (h2 : a < 2147483648) (h3 : -2147483648 ≤ b) (h4 : b < 2147483648) : iI a = iI b ↔ a = b := by rw [← Int32.toInt_inj, iI_T h1 h2, iI_T h3 h4]
theorem iI_nI (a : Nat) : nI a = iI a := Int32.ofInt_eq_ofNat.symm
theorem iI_neg (a : Int) : -iI a = iI (0 - a) := by rw [Int.zero_sub]; exact (Int32.ofInt_neg a).symm
theorem iI_sub (a b : Int) : iI a - iI b = iI (a - b) := (Int32.ofInt_sub a b).symm
theorem iI_add (a b : Int) : iI a + iI b = iI (a + b) := (Int32.ofInt_add a b).symm
def y_gm (γ : Nat → Option Int) : Nat → Option (Int × Nat)
  | 0 => none
  | j + 1 => match γ j, y_gm γ j with
    | none, o => o
    | some x, none => some (x, j)
    | some x, some c => if x ≤ c.1 then some c else some (x, j)
theorem y_gm_n {γ : Nat → Option Int} {j : Nat} (h : γ j = none) : y_gm γ (j + 1) = y_gm γ j := by
  show (match γ j, y_gm γ j with | none, o => o | some x, none => some (x, j) | some x, some c => if x ≤ c.1 then some c else some (x, j)) = _
  rw [h]
theorem y_gm_s {γ : Nat → Option Int} {j : Nat} {x : Int} (h : γ j = some x) : y_gm γ (j + 1) = match y_gm γ j with
    | none => some (x, j)
    | some c => if x ≤ c.1 then some c else some (x, j) := by
  show (match γ j, y_gm γ j with | none, o => o | some x, none => some (x, j) | some x, some c => if x ≤ c.1 then some c else some (x, j)) = _
  rw [h]
  cases y_gm γ j <;> rfl
theorem y_gm_mem {γ : Nat → Option Int} : ∀ j c, y_gm γ j = some c → γ c.2 = some c.1 ∧ c.2 < j
  | 0, c, h => by cases h
  | j + 1, c, h => by
    cases hg : γ j with
    | none =>
      rw [y_gm_n hg] at h
      have := y_gm_mem j c h
      exact ⟨this.1, by omega⟩
    | some x =>
      rw [y_gm_s hg] at h
      cases ho : y_gm γ j with
      | none =>
        rw [ho] at h
        cases h
        exact ⟨hg, Nat.lt_succ_self _⟩
      | some c' =>
        rw [ho] at h
        dsimp only at h
        split at h
        · cases h
          have := y_gm_mem j c ho
          exact ⟨this.1, by omega⟩
        · cases h
          exact ⟨hg, Nat.lt_succ_self _⟩
def y_m2 (a b : Int) : Int := if a < b then b else a
theorem y_m2_c1 {b c x : Int} (h : x ≤ c) : y_m2 (y_m2 b c) x = y_m2 b c := by
  unfold y_m2
  by_cases h1 : b < c
  · rw [if_pos h1, if_neg (by omega)]
  · rw [if_neg h1, if_neg (by omega)]
theorem y_m2_c2 {b c x : Int} (h : ¬ x ≤ c) : y_m2 (y_m2 b c) x = y_m2 b x := by
  unfold y_m2
  by_cases h1 : b < c
  · rw [if_pos h1, if_pos (by omega), if_pos (by omega)]
  · rw [if_neg h1]
theorem y_m2_l {b c : Int} (h : b ≤ c) : y_m2 b c = c := by
  unfold y_m2
  by_cases h1 : b < c
  · rw [if_pos h1]
  · rw [if_neg h1]
    omega
theorem y_m2_r {b c : Int} (h : ¬ b ≤ c) : y_m2 b c = b := by
  unfold y_m2
  rw [if_neg (by omega)]
theorem y_m2_ge {b c a : Int} (h : a ≤ b) : a ≤ y_m2 b c := by
  by_cases h1 : b ≤ c
  · rw [y_m2_l h1]
    omega
  · rw [y_m2_r h1]
    exact h
theorem y_m2_le {b c a : Int} (h : b ≤ a) (h2 : c ≤ a) : y_m2 b c ≤ a := by
  by_cases h1 : b ≤ c
  · rw [y_m2_l h1]
    exact h2
  · rw [y_m2_r h1]
    exact h
def y_fx (γ : Nat → Option Int) (b : Int) : Nat → Int
  | 0 => b
  | j + 1 => match γ j with
    | none => y_fx γ b j
    | some x => y_m2 (y_fx γ b j) x
theorem y_fx_gm {γ : Nat → Option Int} {b : Int} : ∀ j, y_fx γ b j = match y_gm γ j with
    | none => b
    | some c => y_m2 b c.1
  | 0 => rfl
  | j + 1 => by
    have ih := y_fx_gm (γ := γ) (b := b) j
    cases hg : γ j with
    | none =>
      rw [y_gm_n hg, ← ih]
      show (match γ j with | none => y_fx γ b j | some x => y_m2 (y_fx γ b j) x) = _
      rw [hg]
    | some x =>
      have e : y_fx γ b (j + 1) = y_m2 (y_fx γ b j) x := by
        show (match γ j with | none => y_fx γ b j | some x => y_m2 (y_fx γ b j) x) = _
        rw [hg]
      rw [e, ih, y_gm_s hg]
      cases y_gm γ j with
      | none => rfl
      | some c =>
        dsimp only
        by_cases hc : x ≤ c.1
        · rw [if_pos hc]
          exact y_m2_c1 hc
        · rw [if_neg hc]
          exact y_m2_c2 hc
def v_gain (L : xV → Nat → Nat → Int) (v : xV) (p q j : Nat) : Option Int := if j < v 1 0 0 then (if v_cb v p j 1 = true then some ((v 10 j 0 : Int) - L (d_tb v p j 1 (v_vec v p (v_S v j 1))) q p) else none) else some ((0 - L v q p))
def v_lead : Nat → xV → Nat → Nat → Int
  | 0 => fun _ _ _ => 0
  | t + 1 => fun v p q => ((y_gm (v_gain (v_lead t) v p q) (v 1 0 0 + 1)).getD (0, 0)).1
theorem v_gain_G {L : xV → Nat → Nat → Int} {v : xV} {p q : Nat} : v_gain L v p q (v 1 0 0) = some ((0 - L v q p)) := if_neg (Nat.lt_irrefl _)
theorem v_gm_some (L : xV → Nat → Nat → Int) (v : xV) (p q : Nat) : ∃ c, y_gm (v_gain L v p q) (v 1 0 0 + 1) = some c ∧ c.1 = y_fx (v_gain L v p q) ((0 - L v q p)) (v 1 0 0) := by
  rw [y_gm_s v_gain_G, y_fx_gm]
  cases y_gm (v_gain L v p q) (v 1 0 0) with
  | none => exact ⟨_, rfl, rfl⟩
  | some c =>
    dsimp only
    by_cases hc : (0 - L v q p) ≤ c.1
    · rw [if_pos hc]
      exact ⟨_, rfl, (y_m2_l hc).symm⟩
    · rw [if_neg hc]
      exact ⟨_, rfl, (y_m2_r hc).symm⟩
theorem v_lead_S (t : Nat) (v : xV) (p q : Nat) : v_lead (t + 1) v p q = y_fx (v_gain (v_lead t) v p q) ((0 - v_lead t v q p)) (v 1 0 0) := by
  obtain ⟨c, h1, h2⟩ := v_gm_some (v_lead t) v p q
  show ((y_gm (v_gain (v_lead t) v p q) (v 1 0 0 + 1)).getD (0, 0)).1 = _
  rw [h1]
  exact h2
theorem v_cb_at {v : xV} {p i m : Nat} (h : v_cb v p i m = true) : m ≤ v 11 i 0 ∧ v 15 p i + m ≤ 9999 ∧ v_S v i m ≤ 999 ∧ v_few v p (v_S v i m) < 1000000 := by
  simpa only [v_cb, Bool.and_eq_true, decide_eq_true_eq] using h
theorem v_lead_le {N : Nat} (hN : N < 2 ^ 60) : ∀ (t : Nat) (v : xV), v_Bn N v → ∀ p q, p < v 2 0 0 → q < v 2 0 0 → -(99 * (t : Int)) ≤ v_lead t v p q ∧ v_lead t v p q ≤ 99 * (t : Int)
  | 0, v, _, p, q, _, _ => by show -(99 * ((0 : Nat) : Int)) ≤ 0 ∧ 0 ≤ 99 * ((0 : Nat) : Int); omega
  | t + 1, v, hB, p, q, hp, hq => by
    have h0 := v_lead_le hN t v hB q p hq hp
    have hf : ∀ j, j ≤ v 1 0 0 → -(99 * (t : Int)) ≤ y_fx (v_gain (v_lead t) v p q) ((0 - v_lead t v q p)) j ∧ y_fx (v_gain (v_lead t) v p q) ((0 - v_lead t v q p)) j ≤ 99 * (t : Int) + 99 := by
      intro j
      induction j with
      | zero => intro _; show -(99 * (t : Int)) ≤ (0 - v_lead t v q p) ∧ (0 - v_lead t v q p) ≤ 99 * (t : Int) + 99; omega
      | succ j ih =>
        intro hj
        have ih := ih (by omega)
        have hg : v_gain (v_lead t) v p q j = if v_cb v p j 1 = true then some ((v 10 j 0 : Int) - v_lead t (d_tb v p j 1 (v_vec v p (v_S v j 1))) q p) else none := if_pos (by omega)
        show -(99 * (t : Int)) ≤ (match v_gain (v_lead t) v p q j with | none => y_fx (v_gain (v_lead t) v p q) ((0 - v_lead t v q p)) j | some x => y_m2 (y_fx (v_gain (v_lead t) v p q) ((0 - v_lead t v q p)) j) x) ∧ (match v_gain (v_lead t) v p q j with | none => y_fx (v_gain (v_lead t) v p q) ((0 - v_lead t v q p)) j | some x => y_m2 (y_fx (v_gain (v_lead t) v p q) ((0 - v_lead t v q p)) j) x) ≤ 99 * (t : Int) + 99
        by_cases hc : v_cb v p j 1 = true
        · rw [hg, if_pos hc]
          obtain ⟨b1, b2, b3, b4⟩ := v_cb_at hc
          have b10 : v 10 j 0 ≤ 99 := (hB.1 10 j 0 (show j < v 1 0 0 ∧ 0 = 0 from ⟨by omega, rfl⟩)).2
          have hBt := v_Bn_tb hB (v_vec v p (v_S v j 1)) hp (show j < v 1 0 0 by omega) b2
          have h2 := v_lead_le hN t _ hBt q p (by rw [d_tb_c (by decide) (by decide) (by decide)]; exact hq) (by rw [d_tb_c (by decide) (by decide) (by decide)]; exact hp)
          exact ⟨y_m2_ge ih.1, y_m2_le ih.2 (by omega)⟩
        · rw [hg, if_neg hc]
          dsimp only
          omega
    rw [v_lead_S]
    have := hf (v 1 0 0) (Nat.le_refl _)
    omega
def y_iM (o : Option Int) : Int32 := match o with
  | none => -1000
  | some x => iI x
def sp_game (v : xV) (x y z : Int32) : xS := x_sr ((x_ixb x (v 2 0 0) && (x_ixb y (v 2 0 0) && decide (x ≠ y))) && x_wi z 0 3) (iI (v_lead (x_c z) v (x_c x) (x_c y))) v
def s_move (v : xV) (t p q : Nat) : Option (Int32 × xV) := match y_gm (v_gain (v_lead t) v p q) (v 1 0 0 + 1) with
  | none => none
  | some c => if c.2 = v 1 0 0 then none else some (nI c.2, v)
def s_mv (o : Option (Int × Nat)) (b : Int) (G : Nat) (v : xV) : Option (Int32 × xV) := match o with
  | none => none
  | some c => if b ≤ c.1 then (if c.2 = G then none else some (nI c.2, v)) else none
theorem s_move_eq (v : xV) (t p q : Nat) : s_move v t p q = s_mv (y_gm (v_gain (v_lead t) v p q) (v 1 0 0)) ((0 - v_lead t v q p)) (v 1 0 0) v := by
  unfold s_move s_mv
  rw [y_gm_s v_gain_G]
  cases y_gm (v_gain (v_lead t) v p q) (v 1 0 0) with
  | none => dsimp only; rw [if_pos rfl]
  | some c =>
    dsimp only
    by_cases hc : (0 - v_lead t v q p) ≤ c.1
    · rw [if_pos hc, if_pos hc]
    · rw [if_neg hc, if_neg hc]
      dsimp only
      rw [if_pos rfl]
def y_iN (o : Option (Int × Nat)) : Int32 := match o with
  | none => -1
  | some c => nI c.2
def y_iV (o : Option (Int × Nat)) : Int32 := match o with
  | none => -1000
  | some c => iI c.1
def sp_moveOf (v : xV) (x y z : Int32) : xS := x_sq 6 ((x_ixb x (v 2 0 0) && (x_ixb y (v 2 0 0) && decide (x ≠ y))) && x_wi z 1 3) (s_move v (x_c z - 1) (x_c x) (x_c y)) v
def x_PG (f : Nat → Nat → Int32) (g : Nat → Nat → Int64) (L : Nat) (ρ : Nat → Nat → Option Nat) (dm : List Nat) (n : Nat) (v : xV) (w : Int32) : Option Value → xH → Prop := fun z h' => ∃ F G, h' = (F, G, ρ, dm, n) ∧ z = some (.int w) ∧ x_LC f g L F G v
section C48
variable {f : Nat → Nat → Int32} {g : Nat → Nat → Int64} {r t : Nat} {ρ : Nat → Nat → Option Nat} {dm : List Nat} {n d N : Nat} {v : xV} {h : xH}
theorem c_arePair_12 {x y : Int32} (hC : v_C f g 12 v) (hB : v_B v) : x_V 165 (d + 1) [.ref 0, .int x, .int y] (f, g, x_HR 12 t, dm, n) (.int (x_bo (x_ixb x (v 2 0 0) && (x_ixb y (v 2 0 0) && decide (x ≠ y))))) (f, g, x_HR 12 t, dm, n) := by
  have bK := v_B_K hB
  have bG := v_B_G hB
  have bP := v_B_P hB
  have o2 : v_ok v 2 0 0 := ⟨rfl, rfl⟩
  have h2 : f 12 2 = nI (v 2 0 0) := hC.1 2 0 0 o2
  have b2 : v 2 0 0 ≤ 5 := (hB.1 2 0 0 o2).2
  refine x_Ct_w (by decide) (Nat.le_of_ble_eq_true rfl) ok165 [] 6 ?_
  refine Exists.intro _ (And.intro (c_hasPerson rfl h2 bP) (And.intro (And.intro (Nat.zero_le _) (Nat.zero_le _)) (fun q h' hpo => ?_)))
  obtain ⟨rfl, rfl⟩ := hpo
  cases hx : x_ixb x (v 2 0 0) with
  | false =>
    refine And.intro (fun _ => ?_) (fun c => absurd rfl c)
    exact And.intro ⟨rfl, rfl⟩ ⟨Or.inl rfl, Nat.le_refl _, Nat.le_refl _⟩
  | true =>
    refine And.intro (fun c => absurd c (by decide)) (fun _ => ?_)
    refine Exists.intro _ (And.intro (c_hasPerson rfl h2 bP) (And.intro (And.intro (Nat.zero_le _) (Nat.zero_le _)) (fun q h' hpo => ?_)))
    obtain ⟨rfl, rfl⟩ := hpo
    cases hy : x_ixb y (v 2 0 0) with
    | false =>
      refine And.intro (fun _ => ?_) (fun c => absurd rfl c)
      exact And.intro ⟨rfl, rfl⟩ ⟨Or.inl rfl, Nat.le_refl _, Nat.le_refl _⟩
    | true =>
      refine And.intro (fun c => absurd c (by decide)) (fun _ => ?_)
      refine And.intro (fun c => ?_) (fun c => ?_)
      · have c : x = y := c
        exact And.intro ⟨(by rw [decide_eq_false (not_not_intro c)]; rfl), rfl⟩ ⟨Or.inl rfl, Nat.le_refl _, Nat.le_refl _⟩
      · have c : ¬ x = y := c
        exact And.intro ⟨(by rw [decide_eq_true (p := x ≠ y) c]; rfl), rfl⟩ ⟨Or.inr rfl, Nat.le_refl _, Nat.le_refl _⟩
theorem c_leadBuy_12 {T p q i D : Nat} (hl : ∀ (v : xV) (f : Nat → Nat → Int32) (g : Nat → Nat → Int64) (p q : Nat), v_C f g 12 v → v_Bn N v → p < v 2 0 0 → q < v 2 0 0 → x_Ct 53 (d + 3) [.ref 101, .ref 12, .int (nI p), .int (nI q), .int (nI T)] (f, g, x_HR r t, dm, n) (x_PG f g 12 (x_HR r t) dm n v (iI (v_lead T v p q)))) (hC : v_C f g 12 v) (hBn : v_Bn N v) (hN : N < 2 ^ 60) (hp : p < v 2 0 0) (hq : q < v 2 0 0) (hi : i < v 1 0 0) (hT : T ≤ 3) : x_Ct 54 (d + 4) [.ref 101, .ref 12, .int (nI p), .int (nI q), .int (nI (T + 1)), .int (nI i)] (f, g, x_HR r t, dm, n) (x_PG f g 12 (x_HR r t) dm n v (y_iM (v_gain (v_lead T) v p q i))) := by
  have hB := v_Bn_B hBn hN
  have bK := v_B_K hB
  have bG := v_B_G hB
  have bP := v_B_P hB
  have hgn : v_gain (v_lead T) v p q i = if v_cb v p i 1 = true then some ((v 10 i 0 : Int) - v_lead T (d_tb v p i 1 (v_vec v p (v_S v i 1))) q p) else none := if_pos hi
  have hwb := v_wb_lt hB (p := p) (i := i) (m := 1)
  refine x_Ct_w (by decide) (Nat.le_of_ble_eq_true rfl) ok54 [] 6 ?_
  refine Exists.intro _ (And.intro (c_wayToBuy_12 (d := d) (m := 1) hC hB hp hi (by decide)) (And.intro (And.intro (Nat.zero_le _) (Nat.zero_le _)) (fun q h' hpo => ?_)))
  obtain ⟨rfl, G, rfl, hG⟩ := hpo
  have hL := x_LC_G (L := 12) (by decide) hG hC
  cases hcb : v_cb v p i 1 with
  | false =>
    have hno := (v_wb_no hB).mpr hcb
    rw [hgn, hcb, if_neg (by decide)]
    refine And.intro (fun c => ?_) (fun c => ?_)
    · have c : ¬ lg_cmp (lN (v_wb v p i 1)) (lN 1152921504606846976) = 0 := c
      rw [x_lg_eq, pk_lEQ (by omega) (by decide)] at c
      exact absurd hno c
    · refine And.intro ?_ ⟨trivial, Nat.le_refl _, Nat.le_refl _⟩
      exact ⟨f, G, rfl, rfl, hL⟩
  | true =>
    have ew : v_wb v p i 1 = y_way (v_w v) (v 13 p) (v 0 0 0) (v_S v i 1) := if_pos hcb
    obtain ⟨b1, b2, b3, b4⟩ := v_cb_at hcb
    obtain ⟨y1, y2, y3, y4, y5⟩ := y_way_ok (v_w_1 hB) bK b3 b4
    rw [hgn, hcb, if_pos rfl]
    have o11 : v_ok v 11 i 0 := show i < v 1 0 0 ∧ 0 = 0 from ⟨by omega, rfl⟩
    have h11 : f 17 i = nI (v 11 i 0) := hC.1 11 i 0 o11
    have b11 : v 11 i 0 ≤ 9999 := (hB.1 11 i 0 o11).2
    have o10 : v_ok v 10 i 0 := show i < v 1 0 0 ∧ 0 = 0 from ⟨by omega, rfl⟩
    have h10 : f 16 i = nI (v 10 i 0) := hC.1 10 i 0 o10
    have b10 : v 10 i 0 ≤ 99 := (hB.1 10 i 0 o10).2
    have l10 : 1 ≤ v 10 i 0 := (hB.1 10 i 0 o10).1
    refine And.intro (fun c => ?_) (fun c => ?_)
    · obtain ⟨c, hc⟩ : ∃ c, c = v_vec v p (v_S v i 1) := ⟨_, rfl⟩
      have y4 : ∀ k, k < v 0 0 0 → c k ≤ v 13 p k := by rw [hc]; exact y4
      have y3 : ∀ k, k < v 0 0 0 → y_sk (v_wb v p i 1) k = c k := by rw [hc, ew]; exact y3
      have hno : v_wb v p i 1 < 2 ^ 60 := by rw [ew]; exact y1
      rw [← hc]
      have tr := c_tradeB_12 (d := d + 1) (g := G) (r := r) (t := t) (dm := dm) (n := n) (p := p) (i := i) (m := 1) (w := v_wb v p i 1) (c := c) hL.1 hB hp hi (Nat.le_refl _) b1 b2 (by omega) (fun k hk => ⟨y3 k hk, y4 k hk⟩)
      refine Exists.intro _ (And.intro tr (And.intro (And.intro (Nat.zero_le _) (Nat.zero_le _)) (fun q h' hpo => ?_)))
      obtain ⟨F, rfl, rfl, hF⟩ := hpo
      have hBt := v_Bn_tb hBn c hp hi b2
      have o10 : v_ok (d_tb v p i 1 c) 10 i 0 := show i < d_tb v p i 1 c 1 0 0 ∧ 0 = 0 from ⟨by rw [d_tb_c (by decide) (by decide) (by decide)]; exact hi, rfl⟩
      have h10' : F 16 i = nI (v 10 i 0) := (hF.1.1 10 i 0 o10).trans (by rw [d_tb_c (by decide) (by decide) (by decide)])
      refine And.intro (x_ix_nI (by omega) (by omega)) ?_
      rw [nI_clamp (by omega)]
      have cl := hl (d_tb v p i 1 c) F G q p hF.1 hBt (by rw [d_tb_c (by decide) (by decide) (by decide)]; exact hq) (by rw [d_tb_c (by decide) (by decide) (by decide)]; exact hp)
      rw [← nI_pred T] at cl
      refine Exists.intro _ (And.intro cl (And.intro (And.intro (Nat.zero_le _) (Nat.zero_le _)) (fun q h' hpo => ?_)))
      obtain ⟨F2, G2, rfl, rfl, hF2⟩ := hpo
      have t0 : d_tb v p i 1 c 0 0 0 = v 0 0 0 := d_tb_c (by decide) (by decide) (by decide)
      have t1 : d_tb v p i 1 c 1 0 0 = v 1 0 0 := d_tb_c (by decide) (by decide) (by decide)
      have t2 : d_tb v p i 1 c 2 0 0 = v 2 0 0 := d_tb_c (by decide) (by decide) (by decide)
      have t15 : d_tb v p i 1 c 15 p i = v 15 p i + 1 := by rw [d_tb_at, if_neg (by omega), if_pos ⟨rfl, rfl, rfl⟩]
      have t11 : d_tb v p i 1 c 11 i 0 = v 11 i 0 - 1 := by rw [d_tb_at, if_neg (by omega), if_neg (by omega), if_pos ⟨rfl, rfl, rfl⟩]
      have ts := c_tradeS_12 (d := d + 1) (g := G2) (r := r) (t := t) (dm := dm) (n := n) (p := p) (i := i) (m := 1) (w := v_wb v p i 1) (c := c) hF2.1 (v_Bn_B hBt hN) (by omega) (by omega) (Nat.le_refl _) (by omega) (by omega) (by omega) (fun k hk => ⟨y3 k (by omega), by
        rw [d_tb_at, if_pos ⟨rfl, rfl, by omega⟩]
        have b13 : v 13 p k ≤ 9999 := (hB.1 13 p k (show p < v 2 0 0 ∧ k < v 0 0 0 from ⟨hp, by omega⟩)).2
        have := y4 k (by omega)
        omega⟩)
      rw [d_tb_ts b1 y4] at ts
      refine Exists.intro _ (And.intro ts (And.intro (And.intro (Nat.zero_le _) (Nat.zero_le _)) (fun q h' hpo => ?_)))
      obtain ⟨F3, rfl, rfl, hF3⟩ := hpo
      have ea : F 16 i - iI (v_lead T (d_tb v p i 1 c) q p) = iI ((v 10 i 0 : Int) - v_lead T (d_tb v p i 1 c) q p) := by rw [h10', iI_nI, iI_sub]
      refine And.intro ?_ ⟨trivial, Nat.le_refl _, Nat.le_refl _⟩
      refine ⟨F3, G2, rfl, congrArg (fun z => some (Value.int z)) ea, x_LC_tr hL (x_LC_tr hF (x_LC_tr hF2 hF3))⟩
    · have c : lg_cmp (lN (v_wb v p i 1)) (lN 1152921504606846976) = 0 := c
      rw [x_lg_eq, pk_lEQ (by omega) (by decide), ew] at c
      omega
theorem c_lead_12 (hN : N < 2 ^ 60) : ∀ T, T ≤ 3 → ∀ (d : Nat) (v : xV) (f : Nat → Nat → Int32) (g : Nat → Nat → Int64) (p q : Nat), v_C f g 12 v → v_Bn N v → p < v 2 0 0 → q < v 2 0 0 → x_Ct 53 (d + 2 * T + 3) [.ref 101, .ref 12, .int (nI p), .int (nI q), .int (nI T)] (f, g, x_HR r t, dm, n) (x_PG f g 12 (x_HR r t) dm n v (iI (v_lead T v p q))) := by
  intro T
  induction T with
  | zero =>
    intro _ d v f g p q hC hBn hp hq
    refine x_Ct_w (by decide) (Nat.le_of_ble_eq_true rfl) ok53 [24] 4 ?_
    refine And.intro (fun c => absurd (show nI 0 < nI 0 from c) (by decide)) (fun _ => ?_)
    refine And.intro ?_ ⟨trivial, Nat.le_refl _, Nat.le_refl _⟩
    exact ⟨f, g, rfl, rfl, x_LC_0 hC⟩
  | succ T ih =>
    intro hT d v f g p q hC hBn hp hq
    have hB := v_Bn_B hBn hN
    have bK := v_B_K hB
    have bG := v_B_G hB
    have bP := v_B_P hB
    rw [show d + 2 * (T + 1) + 3 = d + 2 * T + 3 + 1 + 1 by omega]
    have bl := v_lead_le hN T v hBn q p hq hp
    have lb : ∀ F G i, x_LC f g 12 F G v → i < v 1 0 0 → x_Ct 54 (d + 2 * T + 4) [.ref 101, .ref 12, .int (nI p), .int (nI q), .int (nI (T + 1)), .int (nI i)] (F, G, x_HR r t, dm, n) (x_PG F G 12 (x_HR r t) dm n v (y_iM (v_gain (v_lead T) v p q i))) := fun F G i hF hi => c_leadBuy_12 (d := d + 2 * T) (D := 0) (fun v f g p q a1 a2 a3 a4 => ih (by omega) d v f g p q a1 a2 a3 a4) hF.1 hBn hN hp hq hi (by omega)
    have hf : ∀ j, j ≤ v 1 0 0 → -1000 ≤ y_fx (v_gain (v_lead T) v p q) ((0 - v_lead T v q p)) j ∧ y_fx (v_gain (v_lead T) v p q) ((0 - v_lead T v q p)) j ≤ 1000 ∧ ∀ i x, i < v 1 0 0 → v_gain (v_lead T) v p q i = some x → -1000 ≤ x ∧ x ≤ 1000 := by
      have hx : ∀ i x, i < v 1 0 0 → v_gain (v_lead T) v p q i = some x → -1000 ≤ x ∧ x ≤ 1000 := by
        intro i x hi hx
        have hg : v_gain (v_lead T) v p q i = if v_cb v p i 1 = true then some ((v 10 i 0 : Int) - v_lead T (d_tb v p i 1 (v_vec v p (v_S v i 1))) q p) else none := if_pos hi
        rw [hg] at hx
        split at hx
        · rename_i hc
          obtain ⟨b1, b2, b3, b4⟩ := v_cb_at hc
          have b10 : v 10 i 0 ≤ 99 := (hB.1 10 i 0 (show i < v 1 0 0 ∧ 0 = 0 from ⟨hi, rfl⟩)).2
          have h2 := v_lead_le hN T _ (v_Bn_tb hBn (v_vec v p (v_S v i 1)) hp hi b2) q p (by rw [d_tb_c (by decide) (by decide) (by decide)]; exact hq) (by rw [d_tb_c (by decide) (by decide) (by decide)]; exact hp)
          cases hx
          omega
        · cases hx
      intro j hj
      refine ⟨?_, ?_, hx⟩
      · rw [y_fx_gm]
        cases ho : y_gm (v_gain (v_lead T) v p q) j with
        | none => show -1000 ≤ 0 - v_lead T v q p; omega
        | some c => exact y_m2_ge (by omega)
      · rw [y_fx_gm]
        cases ho : y_gm (v_gain (v_lead T) v p q) j with
        | none => show 0 - v_lead T v q p ≤ 1000; omega
        | some c =>
          obtain ⟨m1, m2⟩ := y_gm_mem j c ho
          have := hx c.2 c.1 (by omega) m1
          exact y_m2_le (by omega) (by omega)
    have loop : ∀ m j F G, j + m = v 1 0 0 → x_LC f g 12 F G v → x_J 53 (d + 2 * T + 3 + 1 + 1) (x_PG f g 12 (x_HR r t) dm n v (iI (v_lead (T + 1) v p q))) 24 [some (.ref 101), some (.ref 12), some (.int (nI p)), some (.int (nI q)), some (.int (nI (T + 1))), some (.int (iI (y_fx (v_gain (v_lead T) v p q) ((0 - v_lead T v q p)) j))), some (.int (nI j))] [] (F, G, x_HR r t, dm, n) 0 0 := by
      intro m
      induction m with
      | zero =>
        intro j F G hj hF
        have h1 : F 12 1 = nI (v 1 0 0) := hF.1.1 1 0 0 ⟨rfl, rfl⟩
        obtain rfl : j = v 1 0 0 := by omega
        refine x_wp_ok ok53 [24] 4 ?_
        refine And.intro (fun c => ?_) (fun c => ?_)
        · refine And.intro ?_ ⟨trivial, Nat.le_refl _, Nat.le_refl _⟩
          exact ⟨F, G, rfl, by rw [v_lead_S], hF⟩
        · have c : ¬ F 12 1 ≤ nI (v 1 0 0) := c
          rw [h1, nI_leI (by omega) (by omega)] at c
          omega
      | succ m ih2 =>
        intro j F G hj hF
        have h1 : F 12 1 = nI (v 1 0 0) := hF.1.1 1 0 0 ⟨rfl, rfl⟩
        obtain ⟨f1, f2, f3⟩ := hf j (by omega)
        refine x_wp_ok ok53 [24] 4 ?_
        refine And.intro (fun c => ?_) (fun c => ?_)
        · have c : F 12 1 ≤ nI j := c
          rw [h1, nI_leI (by omega) (by omega)] at c
          omega
        · refine Exists.intro _ (And.intro (lb F G j hF (by omega)) (And.intro (And.intro (Nat.zero_le _) (Nat.zero_le _)) (fun q h' hpo => ?_)))
          obtain ⟨F2, G2, rfl, rfl, hF2⟩ := hpo
          have e := ih2 (j + 1) F2 G2 (by omega) (x_LC_tr hF hF2)
          have em : iI (y_fx (v_gain (v_lead T) v p q) ((0 - v_lead T v q p)) (j + 1)) = if iI (y_fx (v_gain (v_lead T) v p q) ((0 - v_lead T v q p)) j) < y_iM (v_gain (v_lead T) v p q j) then y_iM (v_gain (v_lead T) v p q j) else iI (y_fx (v_gain (v_lead T) v p q) ((0 - v_lead T v q p)) j) := by
            show iI (match v_gain (v_lead T) v p q j with | none => y_fx (v_gain (v_lead T) v p q) ((0 - v_lead T v q p)) j | some x => y_m2 (y_fx (v_gain (v_lead T) v p q) ((0 - v_lead T v q p)) j) x) = _
            cases hg : v_gain (v_lead T) v p q j with
            | none =>
              rw [show y_iM none = iI (-1000) from rfl, if_neg]
              rw [iI_lt (by omega) (by omega) (by decide) (by decide)]
              omega
            | some x =>
              have f4 := f3 j x (by omega) hg
              rw [show y_iM (some x) = iI x from rfl]
              dsimp only
              unfold y_m2
              by_cases hc : y_fx (v_gain (v_lead T) v p q) ((0 - v_lead T v q p)) j < x
              · rw [if_pos ((iI_lt (by omega) (by omega) (by omega) (by omega)).mpr hc), if_pos hc]
              · rw [if_neg (fun q => hc ((iI_lt (by omega) (by omega) (by omega) (by omega)).mp q)), if_neg hc]
          rw [em, nI_succ j] at e
          exact e
    refine x_Ct_w (by decide) (Nat.le_of_ble_eq_true rfl) ok53 [24] 4 ?_
    refine And.intro (fun c => ?_) (fun c => ?_)
    · have cl := ih (by omega) (d + 1) v f g q p hC hBn hq hp
      rw [← nI_pred T, show d + 1 + 2 * T + 3 = d + 2 * T + 4 by omega] at cl
      refine Exists.intro _ (And.intro cl (And.intro (And.intro (Nat.zero_le _) (Nat.zero_le _)) (fun q h' hpo => ?_)))
      obtain ⟨F, G, rfl, rfl, hF⟩ := hpo
      have e := loop (v 1 0 0) 0 F G (Nat.zero_add _) hF
      rw [show y_fx (v_gain (v_lead T) v p q) ((0 - v_lead T v q p)) 0 = (0 - v_lead T v q p) from rfl, ← iI_neg] at e
      exact e
    · have c : ¬ nI 0 < nI (T + 1) := c
      rw [nI_ltI (by decide) (by omega)] at c
      omega
theorem c_bestGood_12 (hN : N < 2 ^ 60) {T p q : Nat} (hT : T + 1 ≤ 3) (hC : v_C f g 12 v) (hBn : v_Bn N v) (hp : p < v 2 0 0) (hq : q < v 2 0 0) : x_Ct 55 (d + 10) [.ref 101, .ref 12, .int (nI p), .int (nI q), .int (nI (T + 1))] (f, g, x_HR r t, dm, n) (x_PG f g 12 (x_HR r t) dm n v (x_oW (-1) (s_move v T p q))) := by
  have hB := v_Bn_B hBn hN
  have bK := v_B_K hB
  have bG := v_B_G hB
  have bP := v_B_P hB
  have bl := v_lead_le hN T v hBn q p hq hp
  have cl : ∀ D (v : xV) (f : Nat → Nat → Int32) (g : Nat → Nat → Int64) (p q : Nat), v_C f g 12 v → v_Bn N v → p < v 2 0 0 → q < v 2 0 0 → x_Ct 53 (D + 8) [.ref 101, .ref 12, .int (nI p), .int (nI q), .int (nI T)] (f, g, x_HR r t, dm, n) (x_PG f g 12 (x_HR r t) dm n v (iI (v_lead T v p q))) := fun D v f g p q a1 a2 a3 a4 => by
    have := c_lead_12 (r := r) (t := t) (dm := dm) (n := n) hN T (by omega) (D + (5 - 2 * T)) v f g p q a1 a2 a3 a4
    rw [show D + (5 - 2 * T) + 2 * T + 3 = D + 8 by omega] at this
    exact this
  have lb : ∀ F G i, x_LC f g 12 F G v → i < v 1 0 0 → x_Ct 54 (d + 9) [.ref 101, .ref 12, .int (nI p), .int (nI q), .int (nI (T + 1)), .int (nI i)] (F, G, x_HR r t, dm, n) (x_PG F G 12 (x_HR r t) dm n v (y_iM (v_gain (v_lead T) v p q i))) := fun F G i hF hi => c_leadBuy_12 (d := d + 5) (D := 0) (cl d) hF.1 hBn hN hp hq hi (by omega)
  have hx : ∀ i x, i < v 1 0 0 → v_gain (v_lead T) v p q i = some x → -999 ≤ x ∧ x ≤ 1000 := by
    intro i x hi hx
    have hg : v_gain (v_lead T) v p q i = if v_cb v p i 1 = true then some ((v 10 i 0 : Int) - v_lead T (d_tb v p i 1 (v_vec v p (v_S v i 1))) q p) else none := if_pos hi
    rw [hg] at hx
    split at hx
    · rename_i hc
      obtain ⟨b1, b2, b3, b4⟩ := v_cb_at hc
      have b10 : v 10 i 0 ≤ 99 := (hB.1 10 i 0 (show i < v 1 0 0 ∧ 0 = 0 from ⟨hi, rfl⟩)).2
      have h2 := v_lead_le hN T _ (v_Bn_tb hBn (v_vec v p (v_S v i 1)) hp hi b2) q p (by rw [d_tb_c (by decide) (by decide) (by decide)]; exact hq) (by rw [d_tb_c (by decide) (by decide) (by decide)]; exact hp)
      cases hx
      omega
    · cases hx
  have loop : ∀ m j F G o l8, j + m = v 1 0 0 → x_LC f g 12 F G v → o = y_gm (v_gain (v_lead T) v p q) j → x_J 55 (d + 10) (x_PG f g 12 (x_HR r t) dm n v (x_oW (-1) (s_move v T p q))) 11 [some (.ref 101), some (.ref 12), some (.int (nI p)), some (.int (nI q)), some (.int (nI (T + 1))), some (.int (y_iN o)), some (.int (y_iV o)), some (.int (nI j)), l8] [] (F, G, x_HR r t, dm, n) 0 0 := by
    intro m
    induction m with
    | zero =>
      intro j F G o l8 hj hF ho
      have h1 : F 12 1 = nI (v 1 0 0) := hF.1.1 1 0 0 ⟨rfl, rfl⟩
      obtain rfl : j = v 1 0 0 := by omega
      refine x_wp_ok ok55 [11] 6 ?_
      refine And.intro (fun cc => ?_) (fun cc => ?_)
      · have cl2 := cl (d + 1) v F G q p hF.1 hBn hq hp
        rw [← nI_pred T] at cl2
        refine Exists.intro _ (And.intro cl2 (And.intro (And.intro (Nat.zero_le _) (Nat.zero_le _)) (fun q h' hpo => ?_)))
        obtain ⟨F2, G2, rfl, rfl, hF2⟩ := hpo
        rw [s_move_eq, ← ho]
        cases o with
        | none =>
          refine And.intro (fun c2 => ?_) (fun c2 => ?_)
          · have c2 : -(iI (v_lead T v q p)) ≤ iI (-1000) := c2
            rw [iI_neg, iI_le (by omega) (by omega) (by decide) (by decide)] at c2
            omega
          · refine And.intro ?_ ⟨trivial, Nat.le_refl _, Nat.le_refl _⟩
            exact ⟨F2, G2, rfl, rfl, x_LC_tr hF hF2⟩
        | some c =>
          obtain ⟨m1, m2⟩ := y_gm_mem _ c ho.symm
          have b5 := hx c.2 c.1 m2 m1
          refine And.intro (fun c2 => ?_) (fun c2 => ?_)
          · have c2 : -(iI (v_lead T v q p)) ≤ iI c.1 := c2
            rw [iI_neg, iI_le (by omega) (by omega) (by omega) (by omega)] at c2
            rw [show s_mv (some c) ((0 - v_lead T v q p)) (v 1 0 0) v = some (nI c.2, v) by unfold s_mv; dsimp only; rw [if_pos c2, if_neg (by omega)]]
            refine And.intro ?_ ⟨trivial, Nat.le_refl _, Nat.le_refl _⟩
            exact ⟨F2, G2, rfl, rfl, x_LC_tr hF hF2⟩
          · have c2 : ¬ -(iI (v_lead T v q p)) ≤ iI c.1 := c2
            rw [iI_neg, iI_le (by omega) (by omega) (by omega) (by omega)] at c2
            rw [show s_mv (some c) ((0 - v_lead T v q p)) (v 1 0 0) v = none by unfold s_mv; dsimp only; rw [if_neg c2]]
            refine And.intro ?_ ⟨trivial, Nat.le_refl _, Nat.le_refl _⟩
            exact ⟨F2, G2, rfl, rfl, x_LC_tr hF hF2⟩
      · have cc : ¬ F 12 1 ≤ nI (v 1 0 0) := cc
        rw [h1, nI_leI (by omega) (by omega)] at cc
        omega
    | succ m ih2 =>
      intro j F G o l8 hj hF ho
      have h1 : F 12 1 = nI (v 1 0 0) := hF.1.1 1 0 0 ⟨rfl, rfl⟩
      refine x_wp_ok ok55 [11] 6 ?_
      refine And.intro (fun cc => ?_) (fun cc => ?_)
      · have cc : F 12 1 ≤ nI j := cc
        rw [h1, nI_leI (by omega) (by omega)] at cc
        omega
      · refine Exists.intro _ (And.intro (lb F G j hF (by omega)) (And.intro (And.intro (Nat.zero_le _) (Nat.zero_le _)) (fun q h' hpo => ?_)))
        obtain ⟨F2, G2, rfl, rfl, hF2⟩ := hpo
        have e := ih2 (j + 1) F2 G2 _ (some (.int (y_iM (v_gain (v_lead T) v p q j)))) (by omega) (x_LC_tr hF hF2) rfl
        rw [nI_succ j] at e
        cases hg : v_gain (v_lead T) v p q j with
        | none =>
          rw [y_gm_n hg, ← ho, hg] at e
          refine And.intro (fun c2 => ?_) (fun c2 => ?_)
          · exact e
          · have c2 : ¬ iI (-1000) ≤ y_iV o := c2
            cases o with
            | none => exact absurd (show iI (-1000) ≤ iI (-1000) by decide) c2
            | some c =>
              obtain ⟨m1, m2⟩ := y_gm_mem _ c ho.symm
              have b5 := hx c.2 c.1 (by omega) m1
              have c2 : ¬ iI (-1000) ≤ iI c.1 := c2
              rw [iI_le (by decide) (by decide) (by omega) (by omega)] at c2
              omega
        | some x =>
          have b6 := hx j x (by omega) hg
          rw [y_gm_s hg, ← ho, hg] at e
          cases o with
          | none =>
            refine And.intro (fun c2 => ?_) (fun c2 => ?_)
            · have c2 : iI x ≤ iI (-1000) := c2
              rw [iI_le (by omega) (by omega) (by decide) (by decide)] at c2
              omega
            · exact e
          | some c =>
            obtain ⟨m1, m2⟩ := y_gm_mem _ c ho.symm
            have b5 := hx c.2 c.1 (by omega) m1
            dsimp only at e
            refine And.intro (fun c2 => ?_) (fun c2 => ?_)
            · have c2 : iI x ≤ iI c.1 := c2
              rw [iI_le (by omega) (by omega) (by omega) (by omega)] at c2
              rw [if_pos c2] at e
              exact e
            · have c2 : ¬ iI x ≤ iI c.1 := c2
              rw [iI_le (by omega) (by omega) (by omega) (by omega)] at c2
              rw [if_neg c2] at e
              exact e
  exact x_Ct_w (by decide) (Nat.le_of_ble_eq_true rfl) ok55 [11] 6 (loop (v 1 0 0) 0 f g none none (Nat.zero_add _) (x_LC_0 hC) rfl)
theorem c_game_12 {x y z : Int32} (hC : v_C f g 12 v) (hBn : v_Bn N v) (hN : N < 2 ^ 60) : x_Ct 147 (d + 11) [.ref 0, .int x, .int y, .int z] (f, g, x_HR 12 t, dm, n) (x_PC f g 12 (x_HR 12 t) dm n (sp_game v x y z)) := by
  have hB := v_Bn_B hBn hN
  have bK := v_B_K hB
  have bG := v_B_G hB
  have bP := v_B_P hB
  unfold sp_game
  refine x_Ct_w (by decide) (Nat.le_of_ble_eq_true rfl) ok147 [] 6 ?_
  refine Exists.intro _ (And.intro (c_arePair_12 hC hB) (And.intro (And.intro (Nat.zero_le _) (Nat.zero_le _)) (fun q h' hpo => ?_)))
  obtain ⟨rfl, rfl⟩ := hpo
  cases hb : (x_ixb x (v 2 0 0) && (x_ixb y (v 2 0 0) && decide (x ≠ y))) with
  | false =>
    refine And.intro (fun _ => ?_) (fun c => absurd rfl c)
    refine Exists.intro _ (And.intro c_refuse (And.intro (And.intro (Nat.zero_le _) (Nat.zero_le _)) (fun q h' hpo => ?_)))
    obtain ⟨rfl, rfl⟩ := hpo
    refine And.intro ?_ ⟨trivial, Nat.le_refl _, Nat.le_refl _⟩
    exact x_PC_0 (by decide) hC
  | true =>
    refine And.intro (fun c => absurd c (by decide)) (fun _ => ?_)
    refine Exists.intro _ (And.intro (c_within (x := z) (lo := 0) (hi := 3)) (And.intro (And.intro (Nat.zero_le _) (Nat.zero_le _)) (fun q h' hpo => ?_)))
    obtain ⟨rfl, rfl⟩ := hpo
    cases hz : x_wi z 0 3 with
    | false =>
      refine And.intro (fun c => absurd rfl c) (fun _ => ?_)
      refine Exists.intro _ (And.intro c_refuse (And.intro (And.intro (Nat.zero_le _) (Nat.zero_le _)) (fun q h' hpo => ?_)))
      obtain ⟨rfl, rfl⟩ := hpo
      refine And.intro ?_ ⟨trivial, Nat.le_refl _, Nat.le_refl _⟩
      exact x_PC_0 (by decide) hC
    | true =>
      refine And.intro (fun _ => ?_) (fun c => absurd c (by decide))
      simp only [Bool.and_eq_true] at hb
      obtain ⟨p, hp, rfl⟩ := x_ixb_t hb.1 (by omega)
      obtain ⟨q, hq, rfl⟩ := x_ixb_t hb.2.1 (by omega)
      obtain ⟨T, hT1, hT, rfl⟩ := x_wi_t (lo := 0) (hi := 3) hz (by decide) (by decide)
      rw [x_c, x_c, x_c, nI_clamp (by omega), nI_clamp (by omega), nI_clamp (by omega)]
      have cl := c_lead_12 (r := 12) (t := t) (dm := dm) (n := n) hN T hT (d + (7 - 2 * T)) v f g p q hC hBn hp hq
      rw [show d + (7 - 2 * T) + 2 * T + 3 = d + 10 by omega] at cl
      refine Exists.intro _ (And.intro cl (And.intro (And.intro (Nat.zero_le _) (Nat.zero_le _)) (fun q h' hpo => ?_)))
      obtain ⟨F, G, rfl, rfl, hF⟩ := hpo
      refine Exists.intro _ (And.intro c_answer (And.intro (And.intro (Nat.zero_le _) (Nat.zero_le _)) (fun q h' hpo => ?_)))
      obtain ⟨rfl, rfl⟩ := hpo
      refine And.intro ?_ ⟨trivial, Nat.le_refl _, Nat.le_refl _⟩
      exact x_PC_L (by decide) hF
theorem c_moveOf_12 {x y z : Int32} (hC : v_C f g 12 v) (hBn : v_Bn N v) (hN : N < 2 ^ 60) : x_Ct 148 (d + 11) [.ref 0, .int x, .int y, .int z] (f, g, x_HR 12 t, dm, n) (x_PC f g 12 (x_HR 12 t) dm n (sp_moveOf v x y z)) := by
  have hB := v_Bn_B hBn hN
  have bK := v_B_K hB
  have bG := v_B_G hB
  have bP := v_B_P hB
  unfold sp_moveOf
  refine x_Ct_w (by decide) (Nat.le_of_ble_eq_true rfl) ok148 [] 6 ?_
  refine Exists.intro _ (And.intro (c_arePair_12 hC hB) (And.intro (And.intro (Nat.zero_le _) (Nat.zero_le _)) (fun q h' hpo => ?_)))
  obtain ⟨rfl, rfl⟩ := hpo
  cases hb : (x_ixb x (v 2 0 0) && (x_ixb y (v 2 0 0) && decide (x ≠ y))) with
  | false =>
    refine And.intro (fun _ => ?_) (fun c => absurd rfl c)
    refine Exists.intro _ (And.intro c_refuse (And.intro (And.intro (Nat.zero_le _) (Nat.zero_le _)) (fun q h' hpo => ?_)))
    obtain ⟨rfl, rfl⟩ := hpo
    refine And.intro ?_ ⟨trivial, Nat.le_refl _, Nat.le_refl _⟩
    exact x_PC_0 (by decide) hC
  | true =>
    refine And.intro (fun c => absurd c (by decide)) (fun _ => ?_)
    refine Exists.intro _ (And.intro (c_within (x := z) (lo := 1) (hi := 3)) (And.intro (And.intro (Nat.zero_le _) (Nat.zero_le _)) (fun q h' hpo => ?_)))
    obtain ⟨rfl, rfl⟩ := hpo
    cases hz : x_wi z 1 3 with
    | false =>
      refine And.intro (fun c => absurd rfl c) (fun _ => ?_)
      refine Exists.intro _ (And.intro c_refuse (And.intro (And.intro (Nat.zero_le _) (Nat.zero_le _)) (fun q h' hpo => ?_)))
      obtain ⟨rfl, rfl⟩ := hpo
      refine And.intro ?_ ⟨trivial, Nat.le_refl _, Nat.le_refl _⟩
      exact x_PC_0 (by decide) hC
    | true =>
      refine And.intro (fun _ => ?_) (fun c => absurd c (by decide))
      simp only [Bool.and_eq_true] at hb
      obtain ⟨p, hp, rfl⟩ := x_ixb_t hb.1 (by omega)
      obtain ⟨q, hq, rfl⟩ := x_ixb_t hb.2.1 (by omega)
      obtain ⟨T, hT1, hT, rfl⟩ := x_wi_t (lo := 1) (hi := 3) hz (by decide) (by decide)
      rw [x_c, x_c, x_c, nI_clamp (by omega), nI_clamp (by omega), nI_clamp (by omega)]
      obtain ⟨T, rfl⟩ : ∃ T', T = T' + 1 := ⟨T - 1, by omega⟩
      rw [Nat.add_sub_cancel]
      refine Exists.intro _ (And.intro (c_bestGood_12 hN hT hC hBn hp hq) (And.intro (And.intro (Nat.zero_le _) (Nat.zero_le _)) (fun q h' hpo => ?_)))
      obtain ⟨F, G, rfl, rfl, hF⟩ := hpo
      have hne : ∀ S, s_move v T p q = some S → ¬ S.1 = -1 ∧ S.2 = v := by
        intro S hS
        unfold s_move at hS
        split at hS
        · cases hS
        · rename_i c hc
          have := (y_gm_mem _ c hc).2
          split at hS
          · cases hS
          · cases hS
            exact ⟨x_nIm (by omega), rfl⟩
      cases ho : s_move v T p q with
      | none =>
        refine And.intro (fun c => absurd rfl c) (fun _ => ?_)
        refine Exists.intro _ (And.intro c_refuse (And.intro (And.intro (Nat.zero_le _) (Nat.zero_le _)) (fun q h' hpo => ?_)))
        obtain ⟨rfl, rfl⟩ := hpo
        refine And.intro ?_ ⟨trivial, Nat.le_refl _, Nat.le_refl _⟩
        exact x_PC_L (by decide) hF
      | some S =>
        obtain ⟨e1, e2⟩ := hne S ho
        refine And.intro (fun _ => ?_) (fun c => absurd c e1)
        refine Exists.intro _ (And.intro c_answer (And.intro (And.intro (Nat.zero_le _) (Nat.zero_le _)) (fun q h' hpo => ?_)))
        obtain ⟨rfl, rfl⟩ := hpo
        refine And.intro ?_ ⟨trivial, Nat.le_refl _, Nat.le_refl _⟩
        rw [show x_sq 6 (true && true) (some S) v = (.int S.1, 0, S.2) from rfl, e2]
        exact x_PC_L (by decide) hF
theorem c_arePair_22 {x y : Int32} (hC : v_C f g 22 v) (hB : v_B v) : x_V 165 (d + 1) [.ref 0, .int x, .int y] (f, g, x_HR 22 t, dm, n) (.int (x_bo (x_ixb x (v 2 0 0) && (x_ixb y (v 2 0 0) && decide (x ≠ y))))) (f, g, x_HR 22 t, dm, n) := by
  have bK := v_B_K hB
  have bG := v_B_G hB
  have bP := v_B_P hB
  have o2 : v_ok v 2 0 0 := ⟨rfl, rfl⟩
  have h2 : f 22 2 = nI (v 2 0 0) := hC.1 2 0 0 o2
  have b2 : v 2 0 0 ≤ 5 := (hB.1 2 0 0 o2).2
  refine x_Ct_w (by decide) (Nat.le_of_ble_eq_true rfl) ok165 [] 6 ?_
  refine Exists.intro _ (And.intro (c_hasPerson rfl h2 bP) (And.intro (And.intro (Nat.zero_le _) (Nat.zero_le _)) (fun q h' hpo => ?_)))
  obtain ⟨rfl, rfl⟩ := hpo
  cases hx : x_ixb x (v 2 0 0) with
  | false =>
    refine And.intro (fun _ => ?_) (fun c => absurd rfl c)
    exact And.intro ⟨rfl, rfl⟩ ⟨Or.inl rfl, Nat.le_refl _, Nat.le_refl _⟩
  | true =>
    refine And.intro (fun c => absurd c (by decide)) (fun _ => ?_)
    refine Exists.intro _ (And.intro (c_hasPerson rfl h2 bP) (And.intro (And.intro (Nat.zero_le _) (Nat.zero_le _)) (fun q h' hpo => ?_)))
    obtain ⟨rfl, rfl⟩ := hpo
    cases hy : x_ixb y (v 2 0 0) with
    | false =>
      refine And.intro (fun _ => ?_) (fun c => absurd rfl c)
      exact And.intro ⟨rfl, rfl⟩ ⟨Or.inl rfl, Nat.le_refl _, Nat.le_refl _⟩
    | true =>
      refine And.intro (fun c => absurd c (by decide)) (fun _ => ?_)
      refine And.intro (fun c => ?_) (fun c => ?_)
      · have c : x = y := c
        exact And.intro ⟨(by rw [decide_eq_false (not_not_intro c)]; rfl), rfl⟩ ⟨Or.inl rfl, Nat.le_refl _, Nat.le_refl _⟩
      · have c : ¬ x = y := c
        exact And.intro ⟨(by rw [decide_eq_true (p := x ≠ y) c]; rfl), rfl⟩ ⟨Or.inr rfl, Nat.le_refl _, Nat.le_refl _⟩
theorem c_leadBuy_22 {T p q i D : Nat} (hl : ∀ (v : xV) (f : Nat → Nat → Int32) (g : Nat → Nat → Int64) (p q : Nat), v_C f g 22 v → v_Bn N v → p < v 2 0 0 → q < v 2 0 0 → x_Ct 53 (d + 3) [.ref 101, .ref 22, .int (nI p), .int (nI q), .int (nI T)] (f, g, x_HR r t, dm, n) (x_PG f g 22 (x_HR r t) dm n v (iI (v_lead T v p q)))) (hC : v_C f g 22 v) (hBn : v_Bn N v) (hN : N < 2 ^ 60) (hp : p < v 2 0 0) (hq : q < v 2 0 0) (hi : i < v 1 0 0) (hT : T ≤ 3) : x_Ct 54 (d + 4) [.ref 101, .ref 22, .int (nI p), .int (nI q), .int (nI (T + 1)), .int (nI i)] (f, g, x_HR r t, dm, n) (x_PG f g 22 (x_HR r t) dm n v (y_iM (v_gain (v_lead T) v p q i))) := by
  have hB := v_Bn_B hBn hN
  have bK := v_B_K hB
  have bG := v_B_G hB
  have bP := v_B_P hB
  have hgn : v_gain (v_lead T) v p q i = if v_cb v p i 1 = true then some ((v 10 i 0 : Int) - v_lead T (d_tb v p i 1 (v_vec v p (v_S v i 1))) q p) else none := if_pos hi
  have hwb := v_wb_lt hB (p := p) (i := i) (m := 1)
  refine x_Ct_w (by decide) (Nat.le_of_ble_eq_true rfl) ok54 [] 6 ?_
  refine Exists.intro _ (And.intro (c_wayToBuy_22 (d := d) (m := 1) hC hB hp hi (by decide)) (And.intro (And.intro (Nat.zero_le _) (Nat.zero_le _)) (fun q h' hpo => ?_)))
  obtain ⟨rfl, G, rfl, hG⟩ := hpo
  have hL := x_LC_G (L := 22) (by decide) hG hC
  cases hcb : v_cb v p i 1 with
  | false =>
    have hno := (v_wb_no hB).mpr hcb
    rw [hgn, hcb, if_neg (by decide)]
    refine And.intro (fun c => ?_) (fun c => ?_)
    · have c : ¬ lg_cmp (lN (v_wb v p i 1)) (lN 1152921504606846976) = 0 := c
      rw [x_lg_eq, pk_lEQ (by omega) (by decide)] at c
      exact absurd hno c
    · refine And.intro ?_ ⟨trivial, Nat.le_refl _, Nat.le_refl _⟩
      exact ⟨f, G, rfl, rfl, hL⟩
  | true =>
    have ew : v_wb v p i 1 = y_way (v_w v) (v 13 p) (v 0 0 0) (v_S v i 1) := if_pos hcb
    obtain ⟨b1, b2, b3, b4⟩ := v_cb_at hcb
    obtain ⟨y1, y2, y3, y4, y5⟩ := y_way_ok (v_w_1 hB) bK b3 b4
    rw [hgn, hcb, if_pos rfl]
    have o11 : v_ok v 11 i 0 := show i < v 1 0 0 ∧ 0 = 0 from ⟨by omega, rfl⟩
    have h11 : f 27 i = nI (v 11 i 0) := hC.1 11 i 0 o11
    have b11 : v 11 i 0 ≤ 9999 := (hB.1 11 i 0 o11).2
    have o10 : v_ok v 10 i 0 := show i < v 1 0 0 ∧ 0 = 0 from ⟨by omega, rfl⟩
    have h10 : f 26 i = nI (v 10 i 0) := hC.1 10 i 0 o10
    have b10 : v 10 i 0 ≤ 99 := (hB.1 10 i 0 o10).2
    have l10 : 1 ≤ v 10 i 0 := (hB.1 10 i 0 o10).1
    refine And.intro (fun c => ?_) (fun c => ?_)
    · obtain ⟨c, hc⟩ : ∃ c, c = v_vec v p (v_S v i 1) := ⟨_, rfl⟩
      have y4 : ∀ k, k < v 0 0 0 → c k ≤ v 13 p k := by rw [hc]; exact y4
      have y3 : ∀ k, k < v 0 0 0 → y_sk (v_wb v p i 1) k = c k := by rw [hc, ew]; exact y3
      have hno : v_wb v p i 1 < 2 ^ 60 := by rw [ew]; exact y1
      rw [← hc]
      have tr := c_tradeB_22 (d := d + 1) (g := G) (r := r) (t := t) (dm := dm) (n := n) (p := p) (i := i) (m := 1) (w := v_wb v p i 1) (c := c) hL.1 hB hp hi (Nat.le_refl _) b1 b2 (by omega) (fun k hk => ⟨y3 k hk, y4 k hk⟩)
      refine Exists.intro _ (And.intro tr (And.intro (And.intro (Nat.zero_le _) (Nat.zero_le _)) (fun q h' hpo => ?_)))
      obtain ⟨F, rfl, rfl, hF⟩ := hpo
      have hBt := v_Bn_tb hBn c hp hi b2
      have o10 : v_ok (d_tb v p i 1 c) 10 i 0 := show i < d_tb v p i 1 c 1 0 0 ∧ 0 = 0 from ⟨by rw [d_tb_c (by decide) (by decide) (by decide)]; exact hi, rfl⟩
      have h10' : F 26 i = nI (v 10 i 0) := (hF.1.1 10 i 0 o10).trans (by rw [d_tb_c (by decide) (by decide) (by decide)])
      refine And.intro (x_ix_nI (by omega) (by omega)) ?_
      rw [nI_clamp (by omega)]
      have cl := hl (d_tb v p i 1 c) F G q p hF.1 hBt (by rw [d_tb_c (by decide) (by decide) (by decide)]; exact hq) (by rw [d_tb_c (by decide) (by decide) (by decide)]; exact hp)
      rw [← nI_pred T] at cl
      refine Exists.intro _ (And.intro cl (And.intro (And.intro (Nat.zero_le _) (Nat.zero_le _)) (fun q h' hpo => ?_)))
      obtain ⟨F2, G2, rfl, rfl, hF2⟩ := hpo
      have t0 : d_tb v p i 1 c 0 0 0 = v 0 0 0 := d_tb_c (by decide) (by decide) (by decide)
      have t1 : d_tb v p i 1 c 1 0 0 = v 1 0 0 := d_tb_c (by decide) (by decide) (by decide)
      have t2 : d_tb v p i 1 c 2 0 0 = v 2 0 0 := d_tb_c (by decide) (by decide) (by decide)
      have t15 : d_tb v p i 1 c 15 p i = v 15 p i + 1 := by rw [d_tb_at, if_neg (by omega), if_pos ⟨rfl, rfl, rfl⟩]
      have t11 : d_tb v p i 1 c 11 i 0 = v 11 i 0 - 1 := by rw [d_tb_at, if_neg (by omega), if_neg (by omega), if_pos ⟨rfl, rfl, rfl⟩]
      have ts := c_tradeS_22 (d := d + 1) (g := G2) (r := r) (t := t) (dm := dm) (n := n) (p := p) (i := i) (m := 1) (w := v_wb v p i 1) (c := c) hF2.1 (v_Bn_B hBt hN) (by omega) (by omega) (Nat.le_refl _) (by omega) (by omega) (by omega) (fun k hk => ⟨y3 k (by omega), by
        rw [d_tb_at, if_pos ⟨rfl, rfl, by omega⟩]
        have b13 : v 13 p k ≤ 9999 := (hB.1 13 p k (show p < v 2 0 0 ∧ k < v 0 0 0 from ⟨hp, by omega⟩)).2
        have := y4 k (by omega)
        omega⟩)
      rw [d_tb_ts b1 y4] at ts
      refine Exists.intro _ (And.intro ts (And.intro (And.intro (Nat.zero_le _) (Nat.zero_le _)) (fun q h' hpo => ?_)))
      obtain ⟨F3, rfl, rfl, hF3⟩ := hpo
      have ea : F 26 i - iI (v_lead T (d_tb v p i 1 c) q p) = iI ((v 10 i 0 : Int) - v_lead T (d_tb v p i 1 c) q p) := by rw [h10', iI_nI, iI_sub]
      refine And.intro ?_ ⟨trivial, Nat.le_refl _, Nat.le_refl _⟩
      refine ⟨F3, G2, rfl, congrArg (fun z => some (Value.int z)) ea, x_LC_tr hL (x_LC_tr hF (x_LC_tr hF2 hF3))⟩
    · have c : lg_cmp (lN (v_wb v p i 1)) (lN 1152921504606846976) = 0 := c
      rw [x_lg_eq, pk_lEQ (by omega) (by decide), ew] at c
      omega
theorem c_lead_22 (hN : N < 2 ^ 60) : ∀ T, T ≤ 3 → ∀ (d : Nat) (v : xV) (f : Nat → Nat → Int32) (g : Nat → Nat → Int64) (p q : Nat), v_C f g 22 v → v_Bn N v → p < v 2 0 0 → q < v 2 0 0 → x_Ct 53 (d + 2 * T + 3) [.ref 101, .ref 22, .int (nI p), .int (nI q), .int (nI T)] (f, g, x_HR r t, dm, n) (x_PG f g 22 (x_HR r t) dm n v (iI (v_lead T v p q))) := by
  intro T
  induction T with
  | zero =>
    intro _ d v f g p q hC hBn hp hq
    refine x_Ct_w (by decide) (Nat.le_of_ble_eq_true rfl) ok53 [24] 4 ?_
    refine And.intro (fun c => absurd (show nI 0 < nI 0 from c) (by decide)) (fun _ => ?_)
    refine And.intro ?_ ⟨trivial, Nat.le_refl _, Nat.le_refl _⟩
    exact ⟨f, g, rfl, rfl, x_LC_0 hC⟩
  | succ T ih =>
    intro hT d v f g p q hC hBn hp hq
    have hB := v_Bn_B hBn hN
    have bK := v_B_K hB
    have bG := v_B_G hB
    have bP := v_B_P hB
    rw [show d + 2 * (T + 1) + 3 = d + 2 * T + 3 + 1 + 1 by omega]
    have bl := v_lead_le hN T v hBn q p hq hp
    have lb : ∀ F G i, x_LC f g 22 F G v → i < v 1 0 0 → x_Ct 54 (d + 2 * T + 4) [.ref 101, .ref 22, .int (nI p), .int (nI q), .int (nI (T + 1)), .int (nI i)] (F, G, x_HR r t, dm, n) (x_PG F G 22 (x_HR r t) dm n v (y_iM (v_gain (v_lead T) v p q i))) := fun F G i hF hi => c_leadBuy_22 (d := d + 2 * T) (D := 0) (fun v f g p q a1 a2 a3 a4 => ih (by omega) d v f g p q a1 a2 a3 a4) hF.1 hBn hN hp hq hi (by omega)
    have hf : ∀ j, j ≤ v 1 0 0 → -1000 ≤ y_fx (v_gain (v_lead T) v p q) ((0 - v_lead T v q p)) j ∧ y_fx (v_gain (v_lead T) v p q) ((0 - v_lead T v q p)) j ≤ 1000 ∧ ∀ i x, i < v 1 0 0 → v_gain (v_lead T) v p q i = some x → -1000 ≤ x ∧ x ≤ 1000 := by
      have hx : ∀ i x, i < v 1 0 0 → v_gain (v_lead T) v p q i = some x → -1000 ≤ x ∧ x ≤ 1000 := by
        intro i x hi hx
        have hg : v_gain (v_lead T) v p q i = if v_cb v p i 1 = true then some ((v 10 i 0 : Int) - v_lead T (d_tb v p i 1 (v_vec v p (v_S v i 1))) q p) else none := if_pos hi
        rw [hg] at hx
        split at hx
        · rename_i hc
          obtain ⟨b1, b2, b3, b4⟩ := v_cb_at hc
          have b10 : v 10 i 0 ≤ 99 := (hB.1 10 i 0 (show i < v 1 0 0 ∧ 0 = 0 from ⟨hi, rfl⟩)).2
          have h2 := v_lead_le hN T _ (v_Bn_tb hBn (v_vec v p (v_S v i 1)) hp hi b2) q p (by rw [d_tb_c (by decide) (by decide) (by decide)]; exact hq) (by rw [d_tb_c (by decide) (by decide) (by decide)]; exact hp)
          cases hx
          omega
        · cases hx
      intro j hj
      refine ⟨?_, ?_, hx⟩
      · rw [y_fx_gm]
        cases ho : y_gm (v_gain (v_lead T) v p q) j with
        | none => show -1000 ≤ 0 - v_lead T v q p; omega
        | some c => exact y_m2_ge (by omega)
      · rw [y_fx_gm]
        cases ho : y_gm (v_gain (v_lead T) v p q) j with
        | none => show 0 - v_lead T v q p ≤ 1000; omega
        | some c =>
          obtain ⟨m1, m2⟩ := y_gm_mem j c ho
          have := hx c.2 c.1 (by omega) m1
          exact y_m2_le (by omega) (by omega)
    have loop : ∀ m j F G, j + m = v 1 0 0 → x_LC f g 22 F G v → x_J 53 (d + 2 * T + 3 + 1 + 1) (x_PG f g 22 (x_HR r t) dm n v (iI (v_lead (T + 1) v p q))) 24 [some (.ref 101), some (.ref 22), some (.int (nI p)), some (.int (nI q)), some (.int (nI (T + 1))), some (.int (iI (y_fx (v_gain (v_lead T) v p q) ((0 - v_lead T v q p)) j))), some (.int (nI j))] [] (F, G, x_HR r t, dm, n) 0 0 := by
      intro m
      induction m with
      | zero =>
        intro j F G hj hF
        have h1 : F 22 1 = nI (v 1 0 0) := hF.1.1 1 0 0 ⟨rfl, rfl⟩
        obtain rfl : j = v 1 0 0 := by omega
        refine x_wp_ok ok53 [24] 4 ?_
        refine And.intro (fun c => ?_) (fun c => ?_)
        · refine And.intro ?_ ⟨trivial, Nat.le_refl _, Nat.le_refl _⟩
          exact ⟨F, G, rfl, by rw [v_lead_S], hF⟩
        · have c : ¬ F 22 1 ≤ nI (v 1 0 0) := c
          rw [h1, nI_leI (by omega) (by omega)] at c
          omega
      | succ m ih2 =>
        intro j F G hj hF
        have h1 : F 22 1 = nI (v 1 0 0) := hF.1.1 1 0 0 ⟨rfl, rfl⟩
        obtain ⟨f1, f2, f3⟩ := hf j (by omega)
        refine x_wp_ok ok53 [24] 4 ?_
        refine And.intro (fun c => ?_) (fun c => ?_)
        · have c : F 22 1 ≤ nI j := c
          rw [h1, nI_leI (by omega) (by omega)] at c
          omega
        · refine Exists.intro _ (And.intro (lb F G j hF (by omega)) (And.intro (And.intro (Nat.zero_le _) (Nat.zero_le _)) (fun q h' hpo => ?_)))
          obtain ⟨F2, G2, rfl, rfl, hF2⟩ := hpo
          have e := ih2 (j + 1) F2 G2 (by omega) (x_LC_tr hF hF2)
          have em : iI (y_fx (v_gain (v_lead T) v p q) ((0 - v_lead T v q p)) (j + 1)) = if iI (y_fx (v_gain (v_lead T) v p q) ((0 - v_lead T v q p)) j) < y_iM (v_gain (v_lead T) v p q j) then y_iM (v_gain (v_lead T) v p q j) else iI (y_fx (v_gain (v_lead T) v p q) ((0 - v_lead T v q p)) j) := by
            show iI (match v_gain (v_lead T) v p q j with | none => y_fx (v_gain (v_lead T) v p q) ((0 - v_lead T v q p)) j | some x => y_m2 (y_fx (v_gain (v_lead T) v p q) ((0 - v_lead T v q p)) j) x) = _
            cases hg : v_gain (v_lead T) v p q j with
            | none =>
              rw [show y_iM none = iI (-1000) from rfl, if_neg]
              rw [iI_lt (by omega) (by omega) (by decide) (by decide)]
              omega
            | some x =>
              have f4 := f3 j x (by omega) hg
              rw [show y_iM (some x) = iI x from rfl]
              dsimp only
              unfold y_m2
              by_cases hc : y_fx (v_gain (v_lead T) v p q) ((0 - v_lead T v q p)) j < x
              · rw [if_pos ((iI_lt (by omega) (by omega) (by omega) (by omega)).mpr hc), if_pos hc]
              · rw [if_neg (fun q => hc ((iI_lt (by omega) (by omega) (by omega) (by omega)).mp q)), if_neg hc]
          rw [em, nI_succ j] at e
          exact e
    refine x_Ct_w (by decide) (Nat.le_of_ble_eq_true rfl) ok53 [24] 4 ?_
    refine And.intro (fun c => ?_) (fun c => ?_)
    · have cl := ih (by omega) (d + 1) v f g q p hC hBn hq hp
      rw [← nI_pred T, show d + 1 + 2 * T + 3 = d + 2 * T + 4 by omega] at cl
      refine Exists.intro _ (And.intro cl (And.intro (And.intro (Nat.zero_le _) (Nat.zero_le _)) (fun q h' hpo => ?_)))
      obtain ⟨F, G, rfl, rfl, hF⟩ := hpo
      have e := loop (v 1 0 0) 0 F G (Nat.zero_add _) hF
      rw [show y_fx (v_gain (v_lead T) v p q) ((0 - v_lead T v q p)) 0 = (0 - v_lead T v q p) from rfl, ← iI_neg] at e
      exact e
    · have c : ¬ nI 0 < nI (T + 1) := c
      rw [nI_ltI (by decide) (by omega)] at c
      omega
theorem c_bestGood_22 (hN : N < 2 ^ 60) {T p q : Nat} (hT : T + 1 ≤ 3) (hC : v_C f g 22 v) (hBn : v_Bn N v) (hp : p < v 2 0 0) (hq : q < v 2 0 0) : x_Ct 55 (d + 10) [.ref 101, .ref 22, .int (nI p), .int (nI q), .int (nI (T + 1))] (f, g, x_HR r t, dm, n) (x_PG f g 22 (x_HR r t) dm n v (x_oW (-1) (s_move v T p q))) := by
  have hB := v_Bn_B hBn hN
  have bK := v_B_K hB
  have bG := v_B_G hB
  have bP := v_B_P hB
  have bl := v_lead_le hN T v hBn q p hq hp
  have cl : ∀ D (v : xV) (f : Nat → Nat → Int32) (g : Nat → Nat → Int64) (p q : Nat), v_C f g 22 v → v_Bn N v → p < v 2 0 0 → q < v 2 0 0 → x_Ct 53 (D + 8) [.ref 101, .ref 22, .int (nI p), .int (nI q), .int (nI T)] (f, g, x_HR r t, dm, n) (x_PG f g 22 (x_HR r t) dm n v (iI (v_lead T v p q))) := fun D v f g p q a1 a2 a3 a4 => by
    have := c_lead_22 (r := r) (t := t) (dm := dm) (n := n) hN T (by omega) (D + (5 - 2 * T)) v f g p q a1 a2 a3 a4
    rw [show D + (5 - 2 * T) + 2 * T + 3 = D + 8 by omega] at this
    exact this
  have lb : ∀ F G i, x_LC f g 22 F G v → i < v 1 0 0 → x_Ct 54 (d + 9) [.ref 101, .ref 22, .int (nI p), .int (nI q), .int (nI (T + 1)), .int (nI i)] (F, G, x_HR r t, dm, n) (x_PG F G 22 (x_HR r t) dm n v (y_iM (v_gain (v_lead T) v p q i))) := fun F G i hF hi => c_leadBuy_22 (d := d + 5) (D := 0) (cl d) hF.1 hBn hN hp hq hi (by omega)
  have hx : ∀ i x, i < v 1 0 0 → v_gain (v_lead T) v p q i = some x → -999 ≤ x ∧ x ≤ 1000 := by
    intro i x hi hx
    have hg : v_gain (v_lead T) v p q i = if v_cb v p i 1 = true then some ((v 10 i 0 : Int) - v_lead T (d_tb v p i 1 (v_vec v p (v_S v i 1))) q p) else none := if_pos hi
    rw [hg] at hx
    split at hx
    · rename_i hc
      obtain ⟨b1, b2, b3, b4⟩ := v_cb_at hc
      have b10 : v 10 i 0 ≤ 99 := (hB.1 10 i 0 (show i < v 1 0 0 ∧ 0 = 0 from ⟨hi, rfl⟩)).2
      have h2 := v_lead_le hN T _ (v_Bn_tb hBn (v_vec v p (v_S v i 1)) hp hi b2) q p (by rw [d_tb_c (by decide) (by decide) (by decide)]; exact hq) (by rw [d_tb_c (by decide) (by decide) (by decide)]; exact hp)
      cases hx
      omega
    · cases hx
  have loop : ∀ m j F G o l8, j + m = v 1 0 0 → x_LC f g 22 F G v → o = y_gm (v_gain (v_lead T) v p q) j → x_J 55 (d + 10) (x_PG f g 22 (x_HR r t) dm n v (x_oW (-1) (s_move v T p q))) 11 [some (.ref 101), some (.ref 22), some (.int (nI p)), some (.int (nI q)), some (.int (nI (T + 1))), some (.int (y_iN o)), some (.int (y_iV o)), some (.int (nI j)), l8] [] (F, G, x_HR r t, dm, n) 0 0 := by
    intro m
    induction m with
    | zero =>
      intro j F G o l8 hj hF ho
      have h1 : F 22 1 = nI (v 1 0 0) := hF.1.1 1 0 0 ⟨rfl, rfl⟩
      obtain rfl : j = v 1 0 0 := by omega
      refine x_wp_ok ok55 [11] 6 ?_
      refine And.intro (fun cc => ?_) (fun cc => ?_)
      · have cl2 := cl (d + 1) v F G q p hF.1 hBn hq hp
        rw [← nI_pred T] at cl2
        refine Exists.intro _ (And.intro cl2 (And.intro (And.intro (Nat.zero_le _) (Nat.zero_le _)) (fun q h' hpo => ?_)))
        obtain ⟨F2, G2, rfl, rfl, hF2⟩ := hpo
        rw [s_move_eq, ← ho]
        cases o with
        | none =>
          refine And.intro (fun c2 => ?_) (fun c2 => ?_)
          · have c2 : -(iI (v_lead T v q p)) ≤ iI (-1000) := c2
            rw [iI_neg, iI_le (by omega) (by omega) (by decide) (by decide)] at c2
            omega
          · refine And.intro ?_ ⟨trivial, Nat.le_refl _, Nat.le_refl _⟩
            exact ⟨F2, G2, rfl, rfl, x_LC_tr hF hF2⟩
        | some c =>
          obtain ⟨m1, m2⟩ := y_gm_mem _ c ho.symm
          have b5 := hx c.2 c.1 m2 m1
          refine And.intro (fun c2 => ?_) (fun c2 => ?_)
          · have c2 : -(iI (v_lead T v q p)) ≤ iI c.1 := c2
            rw [iI_neg, iI_le (by omega) (by omega) (by omega) (by omega)] at c2
            rw [show s_mv (some c) ((0 - v_lead T v q p)) (v 1 0 0) v = some (nI c.2, v) by unfold s_mv; dsimp only; rw [if_pos c2, if_neg (by omega)]]
            refine And.intro ?_ ⟨trivial, Nat.le_refl _, Nat.le_refl _⟩
            exact ⟨F2, G2, rfl, rfl, x_LC_tr hF hF2⟩
          · have c2 : ¬ -(iI (v_lead T v q p)) ≤ iI c.1 := c2
            rw [iI_neg, iI_le (by omega) (by omega) (by omega) (by omega)] at c2
            rw [show s_mv (some c) ((0 - v_lead T v q p)) (v 1 0 0) v = none by unfold s_mv; dsimp only; rw [if_neg c2]]
            refine And.intro ?_ ⟨trivial, Nat.le_refl _, Nat.le_refl _⟩
            exact ⟨F2, G2, rfl, rfl, x_LC_tr hF hF2⟩
      · have cc : ¬ F 22 1 ≤ nI (v 1 0 0) := cc
        rw [h1, nI_leI (by omega) (by omega)] at cc
        omega
    | succ m ih2 =>
      intro j F G o l8 hj hF ho
      have h1 : F 22 1 = nI (v 1 0 0) := hF.1.1 1 0 0 ⟨rfl, rfl⟩
      refine x_wp_ok ok55 [11] 6 ?_
      refine And.intro (fun cc => ?_) (fun cc => ?_)
      · have cc : F 22 1 ≤ nI j := cc
        rw [h1, nI_leI (by omega) (by omega)] at cc
        omega
      · refine Exists.intro _ (And.intro (lb F G j hF (by omega)) (And.intro (And.intro (Nat.zero_le _) (Nat.zero_le _)) (fun q h' hpo => ?_)))
        obtain ⟨F2, G2, rfl, rfl, hF2⟩ := hpo
        have e := ih2 (j + 1) F2 G2 _ (some (.int (y_iM (v_gain (v_lead T) v p q j)))) (by omega) (x_LC_tr hF hF2) rfl
        rw [nI_succ j] at e
        cases hg : v_gain (v_lead T) v p q j with
        | none =>
          rw [y_gm_n hg, ← ho, hg] at e
          refine And.intro (fun c2 => ?_) (fun c2 => ?_)
          · exact e
          · have c2 : ¬ iI (-1000) ≤ y_iV o := c2
            cases o with
            | none => exact absurd (show iI (-1000) ≤ iI (-1000) by decide) c2
            | some c =>
              obtain ⟨m1, m2⟩ := y_gm_mem _ c ho.symm
              have b5 := hx c.2 c.1 (by omega) m1
              have c2 : ¬ iI (-1000) ≤ iI c.1 := c2
              rw [iI_le (by decide) (by decide) (by omega) (by omega)] at c2
              omega
        | some x =>
          have b6 := hx j x (by omega) hg
          rw [y_gm_s hg, ← ho, hg] at e
          cases o with
          | none =>
            refine And.intro (fun c2 => ?_) (fun c2 => ?_)
            · have c2 : iI x ≤ iI (-1000) := c2
              rw [iI_le (by omega) (by omega) (by decide) (by decide)] at c2
              omega
            · exact e
          | some c =>
            obtain ⟨m1, m2⟩ := y_gm_mem _ c ho.symm
            have b5 := hx c.2 c.1 (by omega) m1
            dsimp only at e
            refine And.intro (fun c2 => ?_) (fun c2 => ?_)
            · have c2 : iI x ≤ iI c.1 := c2
              rw [iI_le (by omega) (by omega) (by omega) (by omega)] at c2
              rw [if_pos c2] at e
              exact e
            · have c2 : ¬ iI x ≤ iI c.1 := c2
              rw [iI_le (by omega) (by omega) (by omega) (by omega)] at c2
              rw [if_neg c2] at e
              exact e
  exact x_Ct_w (by decide) (Nat.le_of_ble_eq_true rfl) ok55 [11] 6 (loop (v 1 0 0) 0 f g none none (Nat.zero_add _) (x_LC_0 hC) rfl)
theorem c_game_22 {x y z : Int32} (hC : v_C f g 22 v) (hBn : v_Bn N v) (hN : N < 2 ^ 60) : x_Ct 147 (d + 11) [.ref 0, .int x, .int y, .int z] (f, g, x_HR 22 t, dm, n) (x_PC f g 22 (x_HR 22 t) dm n (sp_game v x y z)) := by
  have hB := v_Bn_B hBn hN
  have bK := v_B_K hB
  have bG := v_B_G hB
  have bP := v_B_P hB
  unfold sp_game
  refine x_Ct_w (by decide) (Nat.le_of_ble_eq_true rfl) ok147 [] 6 ?_
  refine Exists.intro _ (And.intro (c_arePair_22 hC hB) (And.intro (And.intro (Nat.zero_le _) (Nat.zero_le _)) (fun q h' hpo => ?_)))
  obtain ⟨rfl, rfl⟩ := hpo
  cases hb : (x_ixb x (v 2 0 0) && (x_ixb y (v 2 0 0) && decide (x ≠ y))) with
  | false =>
    refine And.intro (fun _ => ?_) (fun c => absurd rfl c)
    refine Exists.intro _ (And.intro c_refuse (And.intro (And.intro (Nat.zero_le _) (Nat.zero_le _)) (fun q h' hpo => ?_)))
    obtain ⟨rfl, rfl⟩ := hpo
    refine And.intro ?_ ⟨trivial, Nat.le_refl _, Nat.le_refl _⟩
    exact x_PC_0 (by decide) hC
  | true =>
    refine And.intro (fun c => absurd c (by decide)) (fun _ => ?_)
    refine Exists.intro _ (And.intro (c_within (x := z) (lo := 0) (hi := 3)) (And.intro (And.intro (Nat.zero_le _) (Nat.zero_le _)) (fun q h' hpo => ?_)))
    obtain ⟨rfl, rfl⟩ := hpo
    cases hz : x_wi z 0 3 with
    | false =>
      refine And.intro (fun c => absurd rfl c) (fun _ => ?_)
      refine Exists.intro _ (And.intro c_refuse (And.intro (And.intro (Nat.zero_le _) (Nat.zero_le _)) (fun q h' hpo => ?_)))
      obtain ⟨rfl, rfl⟩ := hpo
      refine And.intro ?_ ⟨trivial, Nat.le_refl _, Nat.le_refl _⟩
      exact x_PC_0 (by decide) hC
    | true =>
      refine And.intro (fun _ => ?_) (fun c => absurd c (by decide))
      simp only [Bool.and_eq_true] at hb
      obtain ⟨p, hp, rfl⟩ := x_ixb_t hb.1 (by omega)
      obtain ⟨q, hq, rfl⟩ := x_ixb_t hb.2.1 (by omega)
      obtain ⟨T, hT1, hT, rfl⟩ := x_wi_t (lo := 0) (hi := 3) hz (by decide) (by decide)
      rw [x_c, x_c, x_c, nI_clamp (by omega), nI_clamp (by omega), nI_clamp (by omega)]
      have cl := c_lead_22 (r := 22) (t := t) (dm := dm) (n := n) hN T hT (d + (7 - 2 * T)) v f g p q hC hBn hp hq
      rw [show d + (7 - 2 * T) + 2 * T + 3 = d + 10 by omega] at cl
      refine Exists.intro _ (And.intro cl (And.intro (And.intro (Nat.zero_le _) (Nat.zero_le _)) (fun q h' hpo => ?_)))
      obtain ⟨F, G, rfl, rfl, hF⟩ := hpo
      refine Exists.intro _ (And.intro c_answer (And.intro (And.intro (Nat.zero_le _) (Nat.zero_le _)) (fun q h' hpo => ?_)))
      obtain ⟨rfl, rfl⟩ := hpo
      refine And.intro ?_ ⟨trivial, Nat.le_refl _, Nat.le_refl _⟩
      exact x_PC_L (by decide) hF
theorem c_moveOf_22 {x y z : Int32} (hC : v_C f g 22 v) (hBn : v_Bn N v) (hN : N < 2 ^ 60) : x_Ct 148 (d + 11) [.ref 0, .int x, .int y, .int z] (f, g, x_HR 22 t, dm, n) (x_PC f g 22 (x_HR 22 t) dm n (sp_moveOf v x y z)) := by
  have hB := v_Bn_B hBn hN
  have bK := v_B_K hB
  have bG := v_B_G hB
  have bP := v_B_P hB
  unfold sp_moveOf
  refine x_Ct_w (by decide) (Nat.le_of_ble_eq_true rfl) ok148 [] 6 ?_
  refine Exists.intro _ (And.intro (c_arePair_22 hC hB) (And.intro (And.intro (Nat.zero_le _) (Nat.zero_le _)) (fun q h' hpo => ?_)))
  obtain ⟨rfl, rfl⟩ := hpo
  cases hb : (x_ixb x (v 2 0 0) && (x_ixb y (v 2 0 0) && decide (x ≠ y))) with
  | false =>
    refine And.intro (fun _ => ?_) (fun c => absurd rfl c)
    refine Exists.intro _ (And.intro c_refuse (And.intro (And.intro (Nat.zero_le _) (Nat.zero_le _)) (fun q h' hpo => ?_)))
    obtain ⟨rfl, rfl⟩ := hpo
    refine And.intro ?_ ⟨trivial, Nat.le_refl _, Nat.le_refl _⟩
    exact x_PC_0 (by decide) hC
  | true =>
    refine And.intro (fun c => absurd c (by decide)) (fun _ => ?_)
    refine Exists.intro _ (And.intro (c_within (x := z) (lo := 1) (hi := 3)) (And.intro (And.intro (Nat.zero_le _) (Nat.zero_le _)) (fun q h' hpo => ?_)))
    obtain ⟨rfl, rfl⟩ := hpo
    cases hz : x_wi z 1 3 with
    | false =>
      refine And.intro (fun c => absurd rfl c) (fun _ => ?_)
      refine Exists.intro _ (And.intro c_refuse (And.intro (And.intro (Nat.zero_le _) (Nat.zero_le _)) (fun q h' hpo => ?_)))
      obtain ⟨rfl, rfl⟩ := hpo
      refine And.intro ?_ ⟨trivial, Nat.le_refl _, Nat.le_refl _⟩
      exact x_PC_0 (by decide) hC
    | true =>
      refine And.intro (fun _ => ?_) (fun c => absurd c (by decide))
      simp only [Bool.and_eq_true] at hb
      obtain ⟨p, hp, rfl⟩ := x_ixb_t hb.1 (by omega)
      obtain ⟨q, hq, rfl⟩ := x_ixb_t hb.2.1 (by omega)
      obtain ⟨T, hT1, hT, rfl⟩ := x_wi_t (lo := 1) (hi := 3) hz (by decide) (by decide)
      rw [x_c, x_c, x_c, nI_clamp (by omega), nI_clamp (by omega), nI_clamp (by omega)]
      obtain ⟨T, rfl⟩ : ∃ T', T = T' + 1 := ⟨T - 1, by omega⟩
      rw [Nat.add_sub_cancel]
      refine Exists.intro _ (And.intro (c_bestGood_22 hN hT hC hBn hp hq) (And.intro (And.intro (Nat.zero_le _) (Nat.zero_le _)) (fun q h' hpo => ?_)))
      obtain ⟨F, G, rfl, rfl, hF⟩ := hpo
      have hne : ∀ S, s_move v T p q = some S → ¬ S.1 = -1 ∧ S.2 = v := by
        intro S hS
        unfold s_move at hS
        split at hS
        · cases hS
        · rename_i c hc
          have := (y_gm_mem _ c hc).2
          split at hS
          · cases hS
          · cases hS
            exact ⟨x_nIm (by omega), rfl⟩
      cases ho : s_move v T p q with
      | none =>
        refine And.intro (fun c => absurd rfl c) (fun _ => ?_)
        refine Exists.intro _ (And.intro c_refuse (And.intro (And.intro (Nat.zero_le _) (Nat.zero_le _)) (fun q h' hpo => ?_)))
        obtain ⟨rfl, rfl⟩ := hpo
        refine And.intro ?_ ⟨trivial, Nat.le_refl _, Nat.le_refl _⟩
        exact x_PC_L (by decide) hF
      | some S =>
        obtain ⟨e1, e2⟩ := hne S ho
        refine And.intro (fun _ => ?_) (fun c => absurd c e1)
        refine Exists.intro _ (And.intro c_answer (And.intro (And.intro (Nat.zero_le _) (Nat.zero_le _)) (fun q h' hpo => ?_)))
        obtain ⟨rfl, rfl⟩ := hpo
        refine And.intro ?_ ⟨trivial, Nat.le_refl _, Nat.le_refl _⟩
        rw [show x_sq 6 (true && true) (some S) v = (.int S.1, 0, S.2) from rfl, e2]
        exact x_PC_L (by decide) hF
end C48
