/-! bounds, with a limit for what was printed and burned -/
def v_Bn (N : Nat) (v : xV) : Prop := (∀ c i j, v_ok v c i j → v_lo c ≤ v c i j ∧ v c i j ≤ v_hi c) ∧ v 8 0 0 ≤ 999 * v 6 0 0 ∧ v 16 0 0 ≤ N ∧ v 17 0 0 ≤ N
theorem v_Bn_B {N : Nat} {v : xV} (h : v_Bn N v) (hN : N < 2 ^ 60) : v_B v := ⟨h.1, h.2.1, Nat.lt_of_le_of_lt h.2.2.1 hN, Nat.lt_of_le_of_lt h.2.2.2 hN⟩
theorem v_Bn_mono {N M : Nat} {v : xV} (h : v_Bn N v) (hN : N ≤ M) : v_Bn M v := ⟨h.1, h.2.1, Nat.le_trans h.2.2.1 hN, Nat.le_trans h.2.2.2 hN⟩
theorem v_Bn_set {N : Nat} {v : xV} (h : v_Bn N v) {c i j x : Nat} (hv : v_ok v c i j) (hc : 3 ≤ c) (h6 : c ≠ 6) (h8 : c ≠ 8) (h1 : v_lo c ≤ x) (h2 : x ≤ v_hi c) : v_Bn N (v_set v c i j x) := by
  have hc15 := v_ok_le hv
  refine ⟨fun c' i' j' h' => ?_, by rw [v_set_c (by omega), v_set_c (by omega)]; exact h.2.1, by rw [v_set_c (by omega)]; exact h.2.2.1, by rw [v_set_c (by omega)]; exact h.2.2.2⟩
  have h' := (v_ok_set hc).mp h'
  by_cases e : c' = c ∧ i' = i ∧ j' = j
  · obtain ⟨rfl, rfl, rfl⟩ := e
    rw [v_set_s]
    exact ⟨h1, h2⟩
  · rw [v_set_n e]
    exact h.1 c' i' j' h'
theorem v_Bn_16 {N M : Nat} {v : xV} (h : v_Bn N v) {x : Nat} (hN : N ≤ M) (hx : x ≤ M) : v_Bn M (v_set v 16 0 0 x) := by
  refine ⟨fun c' i' j' h' => ?_, by rw [v_set_c (by decide), v_set_c (by decide)]; exact h.2.1, by rw [v_set_s]; exact hx, by rw [v_set_c (by decide)]; exact Nat.le_trans h.2.2.2 hN⟩
  have h' := (v_ok_set (by decide)).mp h'
  have := v_ok_le h'
  rw [v_set_c (by omega)]
  exact h.1 c' i' j' h'
theorem v_Bn_17 {N M : Nat} {v : xV} (h : v_Bn N v) {x : Nat} (hN : N ≤ M) (hx : x ≤ M) : v_Bn M (v_set v 17 0 0 x) := by
  refine ⟨fun c' i' j' h' => ?_, by rw [v_set_c (by decide), v_set_c (by decide)]; exact h.2.1, by rw [v_set_c (by decide)]; exact Nat.le_trans h.2.2.1 hN, by rw [v_set_s]; exact hx⟩
  have h' := (v_ok_set (by decide)).mp h'
  have := v_ok_le h'
  rw [v_set_c (by omega)]
  exact h.1 c' i' j' h'
theorem v_Bn_mon1 {N : Nat} {v : xV} (h : v_Bn N v) {m : Nat} (hm : m ≤ 999) (h6 : v 6 0 0 + m ≤ 9999) : v_Bn (N + 998001) (d_mon1 v m) := by
  have b5 : v 5 0 0 ≤ 999 := (h.1 5 0 0 ⟨rfl, rfl⟩).2
  have b1 : m * v 5 0 0 ≤ 999 * 999 := Nat.mul_le_mul hm b5
  have b2 : m * v 5 0 0 ≤ m * 999 := Nat.mul_le_mul_left m b5
  have b3 := h.2.1
  have b4 := h.2.2.1
  unfold d_mon1
  have hA : v_Bn N (v_set (v_set v 6 0 0 (v 6 0 0 + m)) 8 0 0 (v 8 0 0 + m * v 5 0 0)) := by
    refine ⟨fun c i j hv => ?_, ?_, by rw [v_set_c (by decide), v_set_c (by decide)]; exact h.2.2.1, by rw [v_set_c (by decide), v_set_c (by decide)]; exact h.2.2.2⟩
    · have hv := (v_ok_set (by decide)).mp ((v_ok_set (by decide)).mp hv)
      by_cases e8 : c = 8
      · subst e8
        obtain ⟨rfl, rfl⟩ : i = 0 ∧ j = 0 := hv
        rw [v_set_s]
        refine ⟨Nat.zero_le _, ?_⟩
        show v 8 0 0 + m * v 5 0 0 ≤ 9989001
        omega
      · rw [v_set_c e8]
        by_cases e6 : c = 6
        · subst e6
          obtain ⟨rfl, rfl⟩ : i = 0 ∧ j = 0 := hv
          rw [v_set_s]
          exact ⟨Nat.zero_le _, h6⟩
        · rw [v_set_c e6]
          exact h.1 c i j hv
    · rw [v_set_s, v_set_c (by decide), v_set_s]
      omega
  exact v_Bn_16 hA (by omega) (by omega)
theorem v_Bn_mon {N : Nat} {v : xV} (h : v_Bn N v) (hN : N + 998001 < 2 ^ 60) {m : Nat} (hm : m ≤ 999) (h6 : v 6 0 0 + m ≤ 9999) : v_Bn (N + 998001) (d_mon v m) := by
  have h1 := v_Bn_mon1 h hm h6
  have h2 := v_out_le (v_Bn_B h1 hN)
  have l3 : 10 ≤ v 3 0 0 := (h.1 3 0 0 ⟨rfl, rfl⟩).1
  have h5 : v_out (d_mon1 v m) / v 3 0 0 ≤ v_out (d_mon1 v m) / 10 := Nat.div_le_div_left l3 (by decide)
  unfold d_mon
  refine v_Bn_set h1 ⟨rfl, rfl⟩ (by decide) (by decide) (by decide) ?_ ?_
  · exact Nat.le_add_right 1 _
  · show 1 + v_out (d_mon1 v m) / v 3 0 0 ≤ 21000000
    omega
def d_ren1 (v : xV) (p k : Nat) : xV := v_set (v_set (v_set (v_set (v_set v 17 0 0 (v 17 0 0 + (v 13 p k + v 14 p k) * v 9 k 0)) 16 0 0 (v 16 0 0 + d_ren v p k * v 9 (k + 1) 0)) 13 p k 0) 14 p k 0) 13 p (k + 1) (v 13 p (k + 1) + d_ren v p k)
def d_renew (v : xV) (k : Nat) : Nat → xV
  | 0 => v
  | p + 1 => d_ren1 (d_renew v k p) p k
theorem d_ren1_c {v : xV} {p k c i j : Nat} (h : c ≠ 13) (h2 : c ≠ 14) (h3 : c ≠ 16) (h4 : c ≠ 17) : d_ren1 v p k c i j = v c i j := by
  unfold d_ren1
  rw [v_set_c h, v_set_c h2, v_set_c h, v_set_c h3, v_set_c h4]
theorem d_renew_c {v : xV} {k c i j : Nat} (h : c ≠ 13) (h2 : c ≠ 14) (h3 : c ≠ 16) (h4 : c ≠ 17) : ∀ p, d_renew v k p c i j = v c i j
  | 0 => rfl
  | p + 1 => by
    show d_ren1 (d_renew v k p) p k c i j = _
    rw [d_ren1_c h h2 h3 h4, d_renew_c h h2 h3 h4 p]
theorem v_Bn_ren1 {N : Nat} {v : xV} (h : v_Bn N v) {p k : Nat} (hp : p < v 2 0 0) (hk : k + 1 < v 0 0 0) : v_Bn (N + 2 ^ 30) (d_ren1 v p k) := by
  have b13 : v 13 p k ≤ 9999 := (h.1 13 p k (show p < v 2 0 0 ∧ k < v 0 0 0 from ⟨hp, by omega⟩)).2
  have b14 : v 14 p k ≤ 9999 := (h.1 14 p k (show p < v 2 0 0 ∧ k < v 0 0 0 from ⟨hp, by omega⟩)).2
  have b13' : v 13 p (k + 1) ≤ 9999 := (h.1 13 p (k + 1) (show p < v 2 0 0 ∧ k + 1 < v 0 0 0 from ⟨hp, by omega⟩)).2
  have b9 : v 9 k 0 ≤ 500 := (h.1 9 k 0 (show k < v 0 0 0 ∧ 0 = 0 from ⟨by omega, rfl⟩)).2
  have b9' : v 9 (k + 1) 0 ≤ 500 := (h.1 9 (k + 1) 0 (show k + 1 < v 0 0 0 ∧ 0 = 0 from ⟨by omega, rfl⟩)).2
  have br : d_ren v p k ≤ 9999 - v 13 p (k + 1) := Nat.min_le_right _ _
  have m1 : (v 13 p k + v 14 p k) * v 9 k 0 ≤ 19998 * 500 := Nat.mul_le_mul (by omega) b9
  have m2 : d_ren v p k * v 9 (k + 1) 0 ≤ 9999 * 500 := Nat.mul_le_mul (by omega) b9'
  have h16 := h.2.2.1
  have h17 := h.2.2.2
  have ok (w : xV) (c i j : Nat) (hw : w 0 0 0 = v 0 0 0) (hw2 : w 2 0 0 = v 2 0 0) (hi : i < v 2 0 0) (hj : j < v 0 0 0) (hc : c = 13 ∨ c = 14) : v_ok w c i j := by
    rcases hc with rfl | rfl
    · exact show i < w 2 0 0 ∧ j < w 0 0 0 by omega
    · exact show i < w 2 0 0 ∧ j < w 0 0 0 by omega
  unfold d_ren1
  refine v_Bn_set (v_Bn_set (v_Bn_set (v_Bn_16 (v_Bn_17 h (M := N + 2 ^ 30) (by omega) (by omega)) (Nat.le_refl _) (by omega)) ?_ (by decide) (by decide) (by decide) (Nat.zero_le _) (Nat.zero_le _)) ?_ (by decide) (by decide) (by decide) (Nat.zero_le _) (Nat.zero_le _)) ?_ (by decide) (by decide) (by decide) (Nat.zero_le _) ?_
  · exact ok _ 13 p k rfl rfl hp (by omega) (Or.inl rfl)
  · exact ok _ 14 p k rfl rfl hp (by omega) (Or.inr rfl)
  · exact ok _ 13 p (k + 1) rfl rfl hp (by omega) (Or.inl rfl)
  · show _ ≤ 9999
    omega
theorem v_Bn_renew {N : Nat} {v : xV} (h : v_Bn N v) {k : Nat} (hk : k + 1 < v 0 0 0) : ∀ p, p ≤ v 2 0 0 → v_Bn (N + p * 2 ^ 30) (d_renew v k p)
  | 0, _ => by rw [Nat.zero_mul, Nat.add_zero]; exact h
  | p + 1, hp => by
    have h1 := v_Bn_ren1 (p := p) (k := k) (v_Bn_renew h hk p (by omega)) (by rw [d_renew_c (by decide) (by decide) (by decide) (by decide)]; omega) (by rw [d_renew_c (by decide) (by decide) (by decide) (by decide)]; omega)
    rw [show N + (p + 1) * 2 ^ 30 = N + p * 2 ^ 30 + 2 ^ 30 by omega]
    exact h1
def s_renew (v : xV) (k : Nat) : Option (Int32 × xV) := if k + 1 < v 0 0 0 then some (nI (v_out v) - nI (v_out (d_renew v k (v 2 0 0))), d_renew v k (v 2 0 0)) else none
def sp_renew (v : xV) (x : Int32) : xS := x_sq 7 (x_ixb x (v 0 0 0)) (s_renew v (x_c x)) v
def s_mon (v : xV) (m : Nat) : Option (Int32 × xV) := if 9999 < v 6 0 0 + m then none else some (nI (1 + v_out (d_mon1 v m) / v 3 0 0), d_mon v m)
def sp_month (v : xV) (x : Int32) : xS := x_sq 4 (x_wi x 1 99) (s_mon v (x_c x)) v
section C26
variable {f : Nat → Nat → Int32} {g : Nat → Nat → Int64} {r t : Nat} {ρ : Nat → Nat → Option Nat} {dm : List Nat} {n d N : Nat} {v : xV} {h : xH}
theorem x_sub_nI {p : Nat} {j : Int} (hp : p < 2 ^ 31) (c : (nI p).toInt = j) : (p : Int) = j := by
  rw [nI_toInt hp] at c
  exact c
theorem c_toldOfText_12 {j : Nat} (hC : v_C f g 12 v) (hj : j < 6) : x_V 9 d [.ref 12, .int (nI j)] (f, g, x_HR r t, dm, n) (.int (v_told v j)) (f, g, x_HR r t, dm, n) := by
  refine x_Ct_w (by decide) (Nat.le_of_ble_eq_true rfl) ok9 [] 3 ?_
  refine And.intro (And.intro (fun c => ?_) (And.intro (fun c => ?_) (And.intro (fun c => ?_) (And.intro (fun c => ?_) (And.intro (fun c => ?_) trivial))))) (fun c => ?_)
  · obtain rfl : j = 0 := by have := x_sub_nI (by omega) (show (nI j).toInt = 0 from c); omega
    exact And.intro ⟨(congrArg (fun z => some (Value.int z)) (hC.1 0 0 0 ⟨rfl, rfl⟩)), rfl⟩ ⟨trivial, Nat.le_refl _, Nat.le_refl _⟩
  · obtain rfl : j = 1 := by have := x_sub_nI (by omega) (show (nI j).toInt = 1 from c); omega
    exact And.intro ⟨(congrArg (fun z => some (Value.int z)) (hC.1 1 0 0 ⟨rfl, rfl⟩)), rfl⟩ ⟨trivial, Nat.le_refl _, Nat.le_refl _⟩
  · obtain rfl : j = 2 := by have := x_sub_nI (by omega) (show (nI j).toInt = 2 from c); omega
    exact And.intro ⟨(congrArg (fun z => some (Value.int z)) (hC.1 2 0 0 ⟨rfl, rfl⟩)), rfl⟩ ⟨trivial, Nat.le_refl _, Nat.le_refl _⟩
  · obtain rfl : j = 3 := by have := x_sub_nI (by omega) (show (nI j).toInt = 3 from c); omega
    refine And.intro (x_ix_nI (j := 0) (by decide) (by decide)) ?_
    exact And.intro ⟨(congrArg (fun z => some (Value.int z)) (hC.1 3 0 0 ⟨rfl, rfl⟩)), rfl⟩ ⟨trivial, Nat.le_refl _, Nat.le_refl _⟩
  · obtain rfl : j = 4 := by have := x_sub_nI (by omega) (show (nI j).toInt = 4 from c); omega
    refine And.intro (x_ix_nI (j := 1) (by decide) (by decide)) ?_
    exact And.intro ⟨(congrArg (fun z => some (Value.int z)) (hC.1 4 0 0 ⟨rfl, rfl⟩)), rfl⟩ ⟨trivial, Nat.le_refl _, Nat.le_refl _⟩
  · obtain rfl : j = 5 := by
      have c : (nI j).toInt < 0 ∨ 4 < (nI j).toInt := c
      rw [nI_toInt (by omega)] at c
      omega
    refine And.intro (x_ix_nI (j := 2) (by decide) (by decide)) ?_
    exact And.intro ⟨(congrArg (fun z => some (Value.int z)) (hC.1 5 0 0 ⟨rfl, rfl⟩)), rfl⟩ ⟨trivial, Nat.le_refl _, Nat.le_refl _⟩
theorem c_toldOfTime_12 {j : Nat} (hC : v_C f g 12 v) (hB : v_B v) (hj : 6 ≤ j) (hj2 : j ≤ 11) : x_V 10 (d + 3) [.ref 12, .int (nI j)] (f, g, x_HR r t, dm, n) (.int (v_told v j)) (f, g, x_HR r t, dm, n) := by
  have b16 := hB.2.2.1
  have b17 := hB.2.2.2
  refine x_Ct_w (by decide) (Nat.le_of_ble_eq_true rfl) ok10 [] 3 ?_
  refine And.intro (And.intro (fun c => ?_) (And.intro (fun c => ?_) (And.intro (fun c => ?_) (And.intro (fun c => ?_) (And.intro (fun c => ?_) trivial))))) (fun c => ?_)
  · obtain rfl : j = 6 := by have := x_sub_nI (by omega) (show (nI j).toInt = 6 from c); omega
    exact And.intro ⟨(congrArg (fun z => some (Value.int z)) (hC.1 6 0 0 ⟨rfl, rfl⟩)), rfl⟩ ⟨trivial, Nat.le_refl _, Nat.le_refl _⟩
  · obtain rfl : j = 7 := by have := x_sub_nI (by omega) (show (nI j).toInt = 7 from c); omega
    exact And.intro ⟨(congrArg (fun z => some (Value.int z)) (hC.1 7 0 0 ⟨rfl, rfl⟩)), rfl⟩ ⟨trivial, Nat.le_refl _, Nat.le_refl _⟩
  · obtain rfl : j = 8 := by have := x_sub_nI (by omega) (show (nI j).toInt = 8 from c); omega
    refine Exists.intro _ (And.intro (c_outNow_12 hC hB) (And.intro (And.intro (Nat.zero_le _) (Nat.zero_le _)) (fun q h' hpo => ?_)))
    obtain ⟨rfl, rfl⟩ := hpo
    exact And.intro ⟨rfl, rfl⟩ ⟨trivial, Nat.le_refl _, Nat.le_refl _⟩
  · obtain rfl : j = 9 := by have := x_sub_nI (by omega) (show (nI j).toInt = 9 from c); omega
    exact And.intro ⟨(congrArg (fun z => some (Value.int z)) (hC.1 8 0 0 ⟨rfl, rfl⟩)), rfl⟩ ⟨trivial, Nat.le_refl _, Nat.le_refl _⟩
  · obtain rfl : j = 10 := by have := x_sub_nI (by omega) (show (nI j).toInt = 10 from c); omega
    exact And.intro ⟨(by show some (Value.int (if g 12 6 < lN 999999999 then g 12 6 else lN 999999999).toInt32) = _; rw [hC.2.1, x_lmin (by decide) (by omega), lN_i]; rfl), rfl⟩ ⟨trivial, Nat.le_refl _, Nat.le_refl _⟩
  · obtain rfl : j = 11 := by
      have c : (nI j).toInt < 6 ∨ 10 < (nI j).toInt := c
      rw [nI_toInt (by omega)] at c
      omega
    exact And.intro ⟨(by show some (Value.int (if g 12 7 < lN 999999999 then g 12 7 else lN 999999999).toInt32) = _; rw [hC.2.2, x_lmin (by decide) (by omega), lN_i]; rfl), rfl⟩ ⟨trivial, Nat.le_refl _, Nat.le_refl _⟩
theorem c_told_12 {x : Int32} (hC : v_C f g 12 v) (hB : v_B v) : x_Ct 108 (d + 4) [.ref 0, .int x] (f, g, x_HR 12 t, dm, n) (x_PC f g 12 (x_HR 12 t) dm n (sp_told v x)) := by
  unfold sp_told
  refine x_Ct_w (by decide) (Nat.le_of_ble_eq_true rfl) ok108 [] 6 ?_
  refine Exists.intro _ (And.intro (c_within (lo := 0) (hi := 11)) (And.intro (And.intro (Nat.zero_le _) (Nat.zero_le _)) (fun q h' hpo => ?_)))
  obtain ⟨rfl, rfl⟩ := hpo
  cases hz : x_wi x 0 11 with
  | false =>
    refine And.intro (fun c => absurd rfl c) (fun _ => ?_)
    refine Exists.intro _ (And.intro c_refuse (And.intro (And.intro (Nat.zero_le _) (Nat.zero_le _)) (fun q h' hpo => ?_)))
    obtain ⟨rfl, rfl⟩ := hpo
    refine And.intro ?_ ⟨trivial, Nat.le_refl _, Nat.le_refl _⟩
    exact x_PC_0 (by decide) hC
  | true =>
    refine And.intro (fun _ => ?_) (fun c => absurd c (by decide))
    obtain ⟨j, hj1, hj, rfl⟩ := x_wi_t (lo := 0) (hi := 11) hz (by decide) (by decide)
    rw [x_c, nI_clamp (by omega)]
    refine And.intro (fun c => ?_) (fun c => ?_)
    · have c : nI 6 ≤ nI j := c
      rw [nI_leI (by decide) (by omega)] at c
      refine Exists.intro _ (And.intro (c_toldOfTime_12 hC hB c hj) (And.intro (And.intro (Nat.zero_le _) (Nat.zero_le _)) (fun q h' hpo => ?_)))
      obtain ⟨rfl, rfl⟩ := hpo
      refine Exists.intro _ (And.intro c_answer (And.intro (And.intro (Nat.zero_le _) (Nat.zero_le _)) (fun q h' hpo => ?_)))
      obtain ⟨rfl, rfl⟩ := hpo
      refine And.intro ?_ ⟨trivial, Nat.le_refl _, Nat.le_refl _⟩
      exact x_PC_0 (by decide) hC
    · have c : ¬ nI 6 ≤ nI j := c
      rw [nI_leI (by decide) (by omega)] at c
      refine Exists.intro _ (And.intro (c_toldOfText_12 hC (by omega)) (And.intro (And.intro (Nat.zero_le _) (Nat.zero_le _)) (fun q h' hpo => ?_)))
      obtain ⟨rfl, rfl⟩ := hpo
      refine Exists.intro _ (And.intro c_answer (And.intro (And.intro (Nat.zero_le _) (Nat.zero_le _)) (fun q h' hpo => ?_)))
      obtain ⟨rfl, rfl⟩ := hpo
      refine And.intro ?_ ⟨trivial, Nat.le_refl _, Nat.le_refl _⟩
      exact x_PC_0 (by decide) hC
theorem c_richest_12 (hC : v_C f g 12 v) (hB : v_B v) : x_Ct 115 (d + 3) [.ref 0] (f, g, x_HR 12 t, dm, n) (x_PC f g 12 (x_HR 12 t) dm n (sp_richest v)) := by
  have bK := v_B_K hB
  have bG := v_B_G hB
  have bP := v_B_P hB
  have o2 : v_ok v 2 0 0 := ⟨rfl, rfl⟩
  have h2 : f 12 2 = nI (v 2 0 0) := hC.1 2 0 0 o2
  have b2 : v 2 0 0 ≤ 5 := (hB.1 2 0 0 o2).2
  have loop : ∀ m p, p + m = v 2 0 0 → 0 < p → x_J 115 (d + 3) (x_PC f g 12 (x_HR 12 t) dm n (.int (nI (v_rich v (v 2 0 0))), 0, v)) 21 [some (.ref 0), some (.int (nI (v_rich v p))), some (.int (nI p))] [] (f, g, x_HR 12 t, dm, n) 0 0 := by
    intro m
    induction m with
    | zero =>
      intro p hp h0
      refine x_wp_ok ok115 [21] 4 ?_
      refine And.intro (fun c => ?_) (fun c => ?_)
      · rw [Nat.add_zero] at hp
        subst hp
        refine Exists.intro _ (And.intro c_answer (And.intro (And.intro (Nat.zero_le _) (Nat.zero_le _)) (fun q h' hpo => ?_)))
        obtain ⟨rfl, rfl⟩ := hpo
        refine And.intro ?_ ⟨trivial, Nat.le_refl _, Nat.le_refl _⟩
        exact x_PC_0 (by decide) hC
      · have c : ¬ f 12 2 ≤ nI p := c
        rw [h2] at c
        exact absurd (nI_le (by omega) (by omega)) c
    | succ m ih =>
      intro p hp h0
      have hr := v_rich_lt v p h0
      refine x_wp_ok ok115 [21] 4 ?_
      refine And.intro (fun c => ?_) (fun c => ?_)
      · have c : f 12 2 ≤ nI p := c
        rw [h2] at c
        exact absurd c (nI_ge (by omega) (by omega))
      · have w1 := v_ws_le4 hB (c := 13) (Or.inl rfl) (show p < v 2 0 0 by omega)
        have w2 := v_ws_le4 hB (c := 13) (Or.inl rfl) (show v_rich v p < v 2 0 0 by omega)
        have e := ih (p + 1) (by omega) (by omega)
        rw [show v_rich v (p + 1) = if p = 0 then 0 else if v_ws v 13 (v_rich v p) (v 0 0 0) < v_ws v 13 p (v 0 0 0) then p else v_rich v p from rfl, if_neg (by omega), nI_succ p] at e
        refine Exists.intro _ (And.intro (c_wealthOf_12 hC hB (by omega)) (And.intro (And.intro (Nat.zero_le _) (Nat.zero_le _)) (fun q h' hpo => ?_)))
        obtain ⟨rfl, rfl⟩ := hpo
        refine Exists.intro _ (And.intro (c_wealthOf_12 hC hB (by omega)) (And.intro (And.intro (Nat.zero_le _) (Nat.zero_le _)) (fun q h' hpo => ?_)))
        obtain ⟨rfl, rfl⟩ := hpo
        refine And.intro (fun c => ?_) (fun c => ?_)
        · have c : nI (v_ws v 13 p (v 0 0 0)) ≤ nI (v_ws v 13 (v_rich v p) (v 0 0 0)) := c
          rw [nI_leI (by omega) (by omega)] at c
          rw [if_neg (by omega)] at e
          exact e
        · have c : ¬ nI (v_ws v 13 p (v 0 0 0)) ≤ nI (v_ws v 13 (v_rich v p) (v 0 0 0)) := c
          rw [nI_leI (by omega) (by omega)] at c
          rw [if_pos (by omega)] at e
          exact e
  unfold sp_richest
  refine x_Ct_w (by decide) (Nat.le_of_ble_eq_true rfl) ok115 [21] 4 ?_
  refine And.intro (fun c => ?_) (fun c => ?_)
  · have c : ¬ f 12 2 = nI 0 := c
    rw [h2, nI_eq (by omega) (by decide)] at c
    rw [if_neg c]
    obtain ⟨q, hq⟩ : ∃ q, v 2 0 0 = 1 + q := ⟨v 2 0 0 - 1, by omega⟩
    exact loop q 1 hq.symm (by decide)
  · have c : f 12 2 = nI 0 := c
    rw [h2, nI_eq (by omega) (by decide)] at c
    rw [if_pos c]
    refine Exists.intro _ (And.intro c_refuse (And.intro (And.intro (Nat.zero_le _) (Nat.zero_le _)) (fun q h' hpo => ?_)))
    obtain ⟨rfl, rfl⟩ := hpo
    refine And.intro ?_ ⟨trivial, Nat.le_refl _, Nat.le_refl _⟩
    exact x_PC_0 (by decide) hC
theorem c_give_12 {x y z w : Int32} (hC : v_C f g 12 v) (hB : v_B v) : x_Ct 121 (d + 4) [.ref 0, .int x, .int y, .int z, .int w] (f, g, x_HR 12 t, dm, n) (x_PC f g 12 (x_HR 12 t) dm n (sp_give v x y z w)) := by
  have bK := v_B_K hB
  have bG := v_B_G hB
  have bP := v_B_P hB
  have o0 : v_ok v 0 0 0 := ⟨rfl, rfl⟩
  have h0 : f 12 0 = nI (v 0 0 0) := hC.1 0 0 0 o0
  have b0 : v 0 0 0 ≤ 4 := (hB.1 0 0 0 o0).2
  have o2 : v_ok v 2 0 0 := ⟨rfl, rfl⟩
  have h2 : f 12 2 = nI (v 2 0 0) := hC.1 2 0 0 o2
  have b2 : v 2 0 0 ≤ 5 := (hB.1 2 0 0 o2).2
  unfold sp_give
  refine x_Ct_w (by decide) (Nat.le_of_ble_eq_true rfl) ok121 [] 12 ?_
  refine Exists.intro _ (And.intro (c_hasPurse rfl h0 bK h2 bP) (And.intro (And.intro (Nat.zero_le _) (Nat.zero_le _)) (fun q h' hpo => ?_)))
  obtain ⟨rfl, rfl⟩ := hpo
  cases hb : (x_ixb x (v 2 0 0) && x_ixb z (v 0 0 0)) with
  | false =>
    refine And.intro (fun _ => ?_) (fun c => absurd rfl c)
    refine Exists.intro _ (And.intro c_refused (And.intro (And.intro (Nat.zero_le _) (Nat.zero_le _)) (fun q h' hpo => ?_)))
    obtain ⟨rfl, rfl⟩ := hpo
    refine And.intro ?_ ⟨Or.inl rfl, Nat.le_refl _, Nat.le_refl _⟩
    exact x_PC_0 (by decide) hC
  | true =>
    refine And.intro (fun c => absurd c (by decide)) (fun _ => ?_)
    refine Exists.intro _ (And.intro (c_hasPerson rfl h2 bP) (And.intro (And.intro (Nat.zero_le _) (Nat.zero_le _)) (fun q h' hpo => ?_)))
    obtain ⟨rfl, rfl⟩ := hpo
    cases hy : x_ixb y (v 2 0 0) with
    | false =>
      refine And.intro (fun _ => ?_) (fun c => absurd rfl c)
      refine Exists.intro _ (And.intro c_refused (And.intro (And.intro (Nat.zero_le _) (Nat.zero_le _)) (fun q h' hpo => ?_)))
      obtain ⟨rfl, rfl⟩ := hpo
      refine And.intro ?_ ⟨Or.inl rfl, Nat.le_refl _, Nat.le_refl _⟩
      exact x_PC_0 (by decide) hC
    | true =>
      refine And.intro (fun c => absurd c (by decide)) (fun _ => ?_)
      refine And.intro (fun cxy => ?_) (fun cxy => ?_)
      · have cxy : x = y := cxy
        rw [decide_eq_false (not_not_intro cxy)]
        refine Exists.intro _ (And.intro c_refused (And.intro (And.intro (Nat.zero_le _) (Nat.zero_le _)) (fun q h' hpo => ?_)))
        obtain ⟨rfl, rfl⟩ := hpo
        refine And.intro ?_ ⟨Or.inl rfl, Nat.le_refl _, Nat.le_refl _⟩
        exact x_PC_0 (by decide) hC
      · have cxy : ¬ x = y := cxy
        rw [decide_eq_true (p := x ≠ y) cxy]
        refine Exists.intro _ (And.intro c_isAmount (And.intro (And.intro (Nat.zero_le _) (Nat.zero_le _)) (fun q h' hpo => ?_)))
        obtain ⟨rfl, rfl⟩ := hpo
        cases hw : x_wi w 1 999 with
        | false =>
          refine And.intro (fun c => absurd rfl c) (fun _ => ?_)
          refine Exists.intro _ (And.intro c_refused (And.intro (And.intro (Nat.zero_le _) (Nat.zero_le _)) (fun q h' hpo => ?_)))
          obtain ⟨rfl, rfl⟩ := hpo
          refine And.intro ?_ ⟨Or.inl rfl, Nat.le_refl _, Nat.le_refl _⟩
          exact x_PC_0 (by decide) hC
        | true =>
          refine And.intro (fun _ => ?_) (fun c => absurd c (by decide))
          rw [Bool.and_eq_true] at hb
          obtain ⟨p, hp, rfl⟩ := x_ixb_t hb.1 (by omega)
          obtain ⟨k, hk, rfl⟩ := x_ixb_t hb.2 (by omega)
          obtain ⟨p2, hp2, rfl⟩ := x_ixb_t hy (by omega)
          obtain ⟨m, hm1, hm, rfl⟩ := x_wi_t (lo := 1) (hi := 999) hw (by decide) (by decide)
          have hne : p ≠ p2 := fun e => cxy (by rw [e])
          rw [x_c, x_c, x_c, x_c, nI_clamp (by omega), nI_clamp (by omega), nI_clamp (by omega), nI_clamp (by omega)]
          refine Exists.intro _ (And.intro (c_handOver_12 hC hB hp hp2 hne hk hm) (And.intro (And.intro (Nat.zero_le _) (Nat.zero_le _)) (fun q h' hpo => ?_)))
          by_cases hc : v 13 p k < m ∨ 9999 < v 13 p2 k + m
          · rw [if_pos hc] at hpo
            rw [if_pos hc]
            obtain ⟨rfl, rfl⟩ := hpo
            refine And.intro (fun _ => ?_) (fun c => absurd rfl c)
            refine Exists.intro _ (And.intro c_refused (And.intro (And.intro (Nat.zero_le _) (Nat.zero_le _)) (fun q h' hpo => ?_)))
            obtain ⟨rfl, rfl⟩ := hpo
            refine And.intro ?_ ⟨Or.inl rfl, Nat.le_refl _, Nat.le_refl _⟩
            exact x_PC_0 (by decide) hC
          · rw [if_neg hc] at hpo
            rw [if_neg hc]
            obtain ⟨F, G, rfl, rfl, hC', hg', hf'⟩ := hpo
            refine And.intro (fun c => absurd c (by decide)) (fun _ => ?_)
            refine Exists.intro _ (And.intro c_agreed (And.intro (And.intro (Nat.zero_le _) (Nat.zero_le _)) (fun q h' hpo => ?_)))
            obtain ⟨rfl, rfl⟩ := hpo
            refine And.intro ?_ ⟨Or.inr rfl, Nat.le_refl _, Nat.le_refl _⟩
            exact x_PC_F (by decide) hC' hg' hf'
theorem c_rule_12 {x y : Int32} (hC : v_C f g 12 v) (hB : v_B v) : x_Ct 126 (d + 2) [.ref 0, .int x, .int y] (f, g, x_HR 12 t, dm, n) (x_PC f g 12 (x_HR 12 t) dm n (sp_rule v x y)) := by
  have bK := v_B_K hB
  have bG := v_B_G hB
  have bP := v_B_P hB
  unfold sp_rule
  refine x_Ct_w (by decide) (Nat.le_of_ble_eq_true rfl) ok126 [] 6 ?_
  refine Exists.intro _ (And.intro (c_within (lo := 0) (hi := 2)) (And.intro (And.intro (Nat.zero_le _) (Nat.zero_le _)) (fun q h' hpo => ?_)))
  obtain ⟨rfl, rfl⟩ := hpo
  cases hx : x_wi x 0 2 with
  | false =>
    refine And.intro (fun _ => ?_) (fun c => absurd rfl c)
    refine Exists.intro _ (And.intro c_refused (And.intro (And.intro (Nat.zero_le _) (Nat.zero_le _)) (fun q h' hpo => ?_)))
    obtain ⟨rfl, rfl⟩ := hpo
    refine And.intro ?_ ⟨Or.inl rfl, Nat.le_refl _, Nat.le_refl _⟩
    exact x_PC_0 (by decide) hC
  | true =>
    refine And.intro (fun c => absurd c (by decide)) (fun _ => ?_)
    obtain ⟨j, hj1, hj, rfl⟩ := x_wi_t (lo := 0) (hi := 2) hx (by decide) (by decide)
    refine And.intro (x_ix_nI (by omega) (by omega)) ?_
    refine And.intro (x_ix_nI (by omega) (by omega)) ?_
    have e1 : (x_SI 1000).map (fun q => q.2 (nI j).toNatClampNeg) = some (nI (v_rlo j)) ∧ (x_SI 1001).map (fun q => q.2 (nI j).toNatClampNeg) = some (nI (v_rhi j)) := by
      rw [nI_clamp (by omega)]
      obtain rfl | rfl | rfl : j = 0 ∨ j = 1 ∨ j = 2 := by omega
      · exact ⟨rfl, rfl⟩
      · exact ⟨rfl, rfl⟩
      · exact ⟨rfl, rfl⟩
    have e2 := Option.some.inj e1.1
    have e3 := Option.some.inj e1.2
    have cw := c_within (d := d + 1) (h := (f, g, x_HR 12 t, dm, n)) (x := y) (lo := nI (v_rlo j)) (hi := nI (v_rhi j))
    rw [← e2, ← e3] at cw
    refine Exists.intro _ (And.intro cw (And.intro (And.intro (Nat.zero_le _) (Nat.zero_le _)) (fun q h' hpo => ?_)))
    obtain ⟨rfl, rfl⟩ := hpo
    rw [e2, e3]
    rw [show x_c (nI j) = j from nI_clamp (by omega)]
    cases hy : x_wi y (nI (v_rlo j)) (nI (v_rhi j)) with
    | false =>
      refine And.intro (fun c => absurd rfl c) (fun _ => ?_)
      refine Exists.intro _ (And.intro c_refused (And.intro (And.intro (Nat.zero_le _) (Nat.zero_le _)) (fun q h' hpo => ?_)))
      obtain ⟨rfl, rfl⟩ := hpo
      refine And.intro ?_ ⟨Or.inl rfl, Nat.le_refl _, Nat.le_refl _⟩
      exact x_PC_0 (by decide) hC
    | true =>
      refine And.intro (fun _ => ?_) (fun c => absurd c (by decide))
      have hr : v_rlo j ≤ v_rhi j ∧ v_rhi j < 2 ^ 30 := by
        obtain rfl | rfl | rfl : j = 0 ∨ j = 1 ∨ j = 2 := by omega
        · decide
        · decide
        · decide
      obtain ⟨m, hm1, hm, rfl⟩ := x_wi_t (lo := v_rlo j) (hi := v_rhi j) hy hr.2 hr.1
      refine And.intro (x_ix_nI (by omega) (by omega)) ?_
      refine Exists.intro _ (And.intro c_agreed (And.intro (And.intro (Nat.zero_le _) (Nat.zero_le _)) (fun q h' hpo => ?_)))
      obtain ⟨rfl, rfl⟩ := hpo
      refine And.intro ?_ ⟨Or.inr rfl, Nat.le_refl _, Nat.le_refl _⟩
      rw [show x_c (nI m) = m from nI_clamp (by omega), nI_clamp (by omega)]
      obtain rfl | rfl | rfl : j = 0 ∨ j = 1 ∨ j = 2 := by omega
      · exact x_PC_L (by decide) (x_LC_set (x_LC_0 hC) bK bG (c := 3) (i := 0) (j := 0) ⟨rfl, rfl⟩ (by decide))
      · exact x_PC_L (by decide) (x_LC_set (x_LC_0 hC) bK bG (c := 4) (i := 0) (j := 0) ⟨rfl, rfl⟩ (by decide))
      · exact x_PC_L (by decide) (x_LC_set (x_LC_0 hC) bK bG (c := 5) (i := 0) (j := 0) ⟨rfl, rfl⟩ (by decide))
theorem c_monthsTill_12 {x : Int32} (hC : v_C f g 12 v) (hB : v_B v) : x_Ct 130 (d + 3) [.ref 0, .int x] (f, g, x_HR 12 t, dm, n) (x_PC f g 12 (x_HR 12 t) dm n (sp_monthsTill v x)) := by
  have bo := v_out_le hB
  have loop : ∀ m i l, i + m = 1000 → l ≤ 999 → x_J 130 (d + 3) (x_PC f g 12 (x_HR 12 t) dm n (x_sq 6 true (v_till v l m i) v)) 27 [some (.ref 0), some (.int (nI l)), some (.int (nI (v_out v))), some (.int (nI i))] [] (f, g, x_HR 12 t, dm, n) 0 0 := by
    intro m
    induction m with
    | zero =>
      intro i l hi hl
      refine x_wp_ok ok130 [27] 4 ?_
      refine And.intro (fun c => ?_) (fun c => ?_)
      · refine Exists.intro _ (And.intro c_refuse (And.intro (And.intro (Nat.zero_le _) (Nat.zero_le _)) (fun q h' hpo => ?_)))
        obtain ⟨rfl, rfl⟩ := hpo
        refine And.intro ?_ ⟨trivial, Nat.le_refl _, Nat.le_refl _⟩
        exact x_PC_0 (by decide) hC
      · have c : ¬ nI 999 < nI i := c
        rw [nI_ltI (by decide) (by omega)] at c
        omega
    | succ m ih =>
      intro i l hi hl
      have hv := v_lvl_le hB (m := i) (by omega)
      refine x_wp_ok ok130 [27] 4 ?_
      refine And.intro (fun c => ?_) (fun c => ?_)
      · have c : nI 999 < nI i := c
        rw [nI_ltI (by decide) (by omega)] at c
        omega
      · refine Exists.intro _ (And.intro (c_levelAfter_12 hC hB (show i ≤ 999 by omega) (by omega)) (And.intro (And.intro (Nat.zero_le _) (Nat.zero_le _)) (fun q h' hpo => ?_)))
        obtain ⟨rfl, rfl⟩ := hpo
        rw [show v_till v l (m + 1) i = if l < v_lvl v i then some (nI i, v) else v_till v l m (i + 1) from rfl]
        refine And.intro (fun c => ?_) (fun c => ?_)
        · have c : nI (v_lvl v i) ≤ nI l := c
          rw [nI_leI (by omega) (by omega)] at c
          rw [if_neg (by omega)]
          have e := ih (i + 1) l (by omega) hl
          rw [nI_succ] at e
          exact e
        · have c : ¬ nI (v_lvl v i) ≤ nI l := c
          rw [nI_leI (by omega) (by omega)] at c
          rw [if_pos (by omega)]
          refine Exists.intro _ (And.intro c_answer (And.intro (And.intro (Nat.zero_le _) (Nat.zero_le _)) (fun q h' hpo => ?_)))
          obtain ⟨rfl, rfl⟩ := hpo
          refine And.intro ?_ ⟨trivial, Nat.le_refl _, Nat.le_refl _⟩
          exact x_PC_0 (by decide) hC
  unfold sp_monthsTill
  refine x_Ct_w (by decide) (Nat.le_of_ble_eq_true rfl) ok130 [27] 4 ?_
  refine Exists.intro _ (And.intro (c_within (lo := 1) (hi := 999)) (And.intro (And.intro (Nat.zero_le _) (Nat.zero_le _)) (fun q h' hpo => ?_)))
  obtain ⟨rfl, rfl⟩ := hpo
  cases hz : x_wi x 1 999 with
  | false =>
    refine And.intro (fun c => absurd rfl c) (fun _ => ?_)
    refine Exists.intro _ (And.intro c_refuse (And.intro (And.intro (Nat.zero_le _) (Nat.zero_le _)) (fun q h' hpo => ?_)))
    obtain ⟨rfl, rfl⟩ := hpo
    refine And.intro ?_ ⟨trivial, Nat.le_refl _, Nat.le_refl _⟩
    exact x_PC_0 (by decide) hC
  | true =>
    refine And.intro (fun _ => ?_) (fun c => absurd c (by decide))
    obtain ⟨l, hl1, hl, rfl⟩ := x_wi_t (lo := 1) (hi := 999) hz (by decide) (by decide)
    rw [x_c, nI_clamp (by omega)]
    refine Exists.intro _ (And.intro (c_outNow_12 hC hB) (And.intro (And.intro (Nat.zero_le _) (Nat.zero_le _)) (fun q h' hpo => ?_)))
    obtain ⟨rfl, rfl⟩ := hpo
    exact loop 999 1 l (by decide) hl
theorem c_toldOfText_22 {j : Nat} (hC : v_C f g 22 v) (hj : j < 6) : x_V 9 d [.ref 22, .int (nI j)] (f, g, x_HR r t, dm, n) (.int (v_told v j)) (f, g, x_HR r t, dm, n) := by
  refine x_Ct_w (by decide) (Nat.le_of_ble_eq_true rfl) ok9 [] 3 ?_
  refine And.intro (And.intro (fun c => ?_) (And.intro (fun c => ?_) (And.intro (fun c => ?_) (And.intro (fun c => ?_) (And.intro (fun c => ?_) trivial))))) (fun c => ?_)
  · obtain rfl : j = 0 := by have := x_sub_nI (by omega) (show (nI j).toInt = 0 from c); omega
    exact And.intro ⟨(congrArg (fun z => some (Value.int z)) (hC.1 0 0 0 ⟨rfl, rfl⟩)), rfl⟩ ⟨trivial, Nat.le_refl _, Nat.le_refl _⟩
  · obtain rfl : j = 1 := by have := x_sub_nI (by omega) (show (nI j).toInt = 1 from c); omega
    exact And.intro ⟨(congrArg (fun z => some (Value.int z)) (hC.1 1 0 0 ⟨rfl, rfl⟩)), rfl⟩ ⟨trivial, Nat.le_refl _, Nat.le_refl _⟩
  · obtain rfl : j = 2 := by have := x_sub_nI (by omega) (show (nI j).toInt = 2 from c); omega
    exact And.intro ⟨(congrArg (fun z => some (Value.int z)) (hC.1 2 0 0 ⟨rfl, rfl⟩)), rfl⟩ ⟨trivial, Nat.le_refl _, Nat.le_refl _⟩
  · obtain rfl : j = 3 := by have := x_sub_nI (by omega) (show (nI j).toInt = 3 from c); omega
    refine And.intro (x_ix_nI (j := 0) (by decide) (by decide)) ?_
    exact And.intro ⟨(congrArg (fun z => some (Value.int z)) (hC.1 3 0 0 ⟨rfl, rfl⟩)), rfl⟩ ⟨trivial, Nat.le_refl _, Nat.le_refl _⟩
  · obtain rfl : j = 4 := by have := x_sub_nI (by omega) (show (nI j).toInt = 4 from c); omega
    refine And.intro (x_ix_nI (j := 1) (by decide) (by decide)) ?_
    exact And.intro ⟨(congrArg (fun z => some (Value.int z)) (hC.1 4 0 0 ⟨rfl, rfl⟩)), rfl⟩ ⟨trivial, Nat.le_refl _, Nat.le_refl _⟩
  · obtain rfl : j = 5 := by
      have c : (nI j).toInt < 0 ∨ 4 < (nI j).toInt := c
      rw [nI_toInt (by omega)] at c
      omega
    refine And.intro (x_ix_nI (j := 2) (by decide) (by decide)) ?_
    exact And.intro ⟨(congrArg (fun z => some (Value.int z)) (hC.1 5 0 0 ⟨rfl, rfl⟩)), rfl⟩ ⟨trivial, Nat.le_refl _, Nat.le_refl _⟩
theorem c_toldOfTime_22 {j : Nat} (hC : v_C f g 22 v) (hB : v_B v) (hj : 6 ≤ j) (hj2 : j ≤ 11) : x_V 10 (d + 3) [.ref 22, .int (nI j)] (f, g, x_HR r t, dm, n) (.int (v_told v j)) (f, g, x_HR r t, dm, n) := by
  have b16 := hB.2.2.1
  have b17 := hB.2.2.2
  refine x_Ct_w (by decide) (Nat.le_of_ble_eq_true rfl) ok10 [] 3 ?_
  refine And.intro (And.intro (fun c => ?_) (And.intro (fun c => ?_) (And.intro (fun c => ?_) (And.intro (fun c => ?_) (And.intro (fun c => ?_) trivial))))) (fun c => ?_)
  · obtain rfl : j = 6 := by have := x_sub_nI (by omega) (show (nI j).toInt = 6 from c); omega
    exact And.intro ⟨(congrArg (fun z => some (Value.int z)) (hC.1 6 0 0 ⟨rfl, rfl⟩)), rfl⟩ ⟨trivial, Nat.le_refl _, Nat.le_refl _⟩
  · obtain rfl : j = 7 := by have := x_sub_nI (by omega) (show (nI j).toInt = 7 from c); omega
    exact And.intro ⟨(congrArg (fun z => some (Value.int z)) (hC.1 7 0 0 ⟨rfl, rfl⟩)), rfl⟩ ⟨trivial, Nat.le_refl _, Nat.le_refl _⟩
  · obtain rfl : j = 8 := by have := x_sub_nI (by omega) (show (nI j).toInt = 8 from c); omega
    refine Exists.intro _ (And.intro (c_outNow_22 hC hB) (And.intro (And.intro (Nat.zero_le _) (Nat.zero_le _)) (fun q h' hpo => ?_)))
    obtain ⟨rfl, rfl⟩ := hpo
    exact And.intro ⟨rfl, rfl⟩ ⟨trivial, Nat.le_refl _, Nat.le_refl _⟩
  · obtain rfl : j = 9 := by have := x_sub_nI (by omega) (show (nI j).toInt = 9 from c); omega
    exact And.intro ⟨(congrArg (fun z => some (Value.int z)) (hC.1 8 0 0 ⟨rfl, rfl⟩)), rfl⟩ ⟨trivial, Nat.le_refl _, Nat.le_refl _⟩
  · obtain rfl : j = 10 := by have := x_sub_nI (by omega) (show (nI j).toInt = 10 from c); omega
    exact And.intro ⟨(by show some (Value.int (if g 22 6 < lN 999999999 then g 22 6 else lN 999999999).toInt32) = _; rw [hC.2.1, x_lmin (by decide) (by omega), lN_i]; rfl), rfl⟩ ⟨trivial, Nat.le_refl _, Nat.le_refl _⟩
  · obtain rfl : j = 11 := by
      have c : (nI j).toInt < 6 ∨ 10 < (nI j).toInt := c
      rw [nI_toInt (by omega)] at c
      omega
    exact And.intro ⟨(by show some (Value.int (if g 22 7 < lN 999999999 then g 22 7 else lN 999999999).toInt32) = _; rw [hC.2.2, x_lmin (by decide) (by omega), lN_i]; rfl), rfl⟩ ⟨trivial, Nat.le_refl _, Nat.le_refl _⟩
theorem c_told_22 {x : Int32} (hC : v_C f g 22 v) (hB : v_B v) : x_Ct 108 (d + 4) [.ref 0, .int x] (f, g, x_HR 22 t, dm, n) (x_PC f g 22 (x_HR 22 t) dm n (sp_told v x)) := by
  unfold sp_told
  refine x_Ct_w (by decide) (Nat.le_of_ble_eq_true rfl) ok108 [] 6 ?_
  refine Exists.intro _ (And.intro (c_within (lo := 0) (hi := 11)) (And.intro (And.intro (Nat.zero_le _) (Nat.zero_le _)) (fun q h' hpo => ?_)))
  obtain ⟨rfl, rfl⟩ := hpo
  cases hz : x_wi x 0 11 with
  | false =>
    refine And.intro (fun c => absurd rfl c) (fun _ => ?_)
    refine Exists.intro _ (And.intro c_refuse (And.intro (And.intro (Nat.zero_le _) (Nat.zero_le _)) (fun q h' hpo => ?_)))
    obtain ⟨rfl, rfl⟩ := hpo
    refine And.intro ?_ ⟨trivial, Nat.le_refl _, Nat.le_refl _⟩
    exact x_PC_0 (by decide) hC
  | true =>
    refine And.intro (fun _ => ?_) (fun c => absurd c (by decide))
    obtain ⟨j, hj1, hj, rfl⟩ := x_wi_t (lo := 0) (hi := 11) hz (by decide) (by decide)
    rw [x_c, nI_clamp (by omega)]
    refine And.intro (fun c => ?_) (fun c => ?_)
    · have c : nI 6 ≤ nI j := c
      rw [nI_leI (by decide) (by omega)] at c
      refine Exists.intro _ (And.intro (c_toldOfTime_22 hC hB c hj) (And.intro (And.intro (Nat.zero_le _) (Nat.zero_le _)) (fun q h' hpo => ?_)))
      obtain ⟨rfl, rfl⟩ := hpo
      refine Exists.intro _ (And.intro c_answer (And.intro (And.intro (Nat.zero_le _) (Nat.zero_le _)) (fun q h' hpo => ?_)))
      obtain ⟨rfl, rfl⟩ := hpo
      refine And.intro ?_ ⟨trivial, Nat.le_refl _, Nat.le_refl _⟩
      exact x_PC_0 (by decide) hC
    · have c : ¬ nI 6 ≤ nI j := c
      rw [nI_leI (by decide) (by omega)] at c
      refine Exists.intro _ (And.intro (c_toldOfText_22 hC (by omega)) (And.intro (And.intro (Nat.zero_le _) (Nat.zero_le _)) (fun q h' hpo => ?_)))
      obtain ⟨rfl, rfl⟩ := hpo
      refine Exists.intro _ (And.intro c_answer (And.intro (And.intro (Nat.zero_le _) (Nat.zero_le _)) (fun q h' hpo => ?_)))
      obtain ⟨rfl, rfl⟩ := hpo
      refine And.intro ?_ ⟨trivial, Nat.le_refl _, Nat.le_refl _⟩
      exact x_PC_0 (by decide) hC
theorem c_richest_22 (hC : v_C f g 22 v) (hB : v_B v) : x_Ct 115 (d + 3) [.ref 0] (f, g, x_HR 22 t, dm, n) (x_PC f g 22 (x_HR 22 t) dm n (sp_richest v)) := by
  have bK := v_B_K hB
  have bG := v_B_G hB
  have bP := v_B_P hB
  have o2 : v_ok v 2 0 0 := ⟨rfl, rfl⟩
  have h2 : f 22 2 = nI (v 2 0 0) := hC.1 2 0 0 o2
  have b2 : v 2 0 0 ≤ 5 := (hB.1 2 0 0 o2).2
  have loop : ∀ m p, p + m = v 2 0 0 → 0 < p → x_J 115 (d + 3) (x_PC f g 22 (x_HR 22 t) dm n (.int (nI (v_rich v (v 2 0 0))), 0, v)) 21 [some (.ref 0), some (.int (nI (v_rich v p))), some (.int (nI p))] [] (f, g, x_HR 22 t, dm, n) 0 0 := by
    intro m
    induction m with
    | zero =>
      intro p hp h0
      refine x_wp_ok ok115 [21] 4 ?_
      refine And.intro (fun c => ?_) (fun c => ?_)
      · rw [Nat.add_zero] at hp
        subst hp
        refine Exists.intro _ (And.intro c_answer (And.intro (And.intro (Nat.zero_le _) (Nat.zero_le _)) (fun q h' hpo => ?_)))
        obtain ⟨rfl, rfl⟩ := hpo
        refine And.intro ?_ ⟨trivial, Nat.le_refl _, Nat.le_refl _⟩
        exact x_PC_0 (by decide) hC
      · have c : ¬ f 22 2 ≤ nI p := c
        rw [h2] at c
        exact absurd (nI_le (by omega) (by omega)) c
    | succ m ih =>
      intro p hp h0
      have hr := v_rich_lt v p h0
      refine x_wp_ok ok115 [21] 4 ?_
      refine And.intro (fun c => ?_) (fun c => ?_)
      · have c : f 22 2 ≤ nI p := c
        rw [h2] at c
        exact absurd c (nI_ge (by omega) (by omega))
      · have w1 := v_ws_le4 hB (c := 13) (Or.inl rfl) (show p < v 2 0 0 by omega)
        have w2 := v_ws_le4 hB (c := 13) (Or.inl rfl) (show v_rich v p < v 2 0 0 by omega)
        have e := ih (p + 1) (by omega) (by omega)
        rw [show v_rich v (p + 1) = if p = 0 then 0 else if v_ws v 13 (v_rich v p) (v 0 0 0) < v_ws v 13 p (v 0 0 0) then p else v_rich v p from rfl, if_neg (by omega), nI_succ p] at e
        refine Exists.intro _ (And.intro (c_wealthOf_22 hC hB (by omega)) (And.intro (And.intro (Nat.zero_le _) (Nat.zero_le _)) (fun q h' hpo => ?_)))
        obtain ⟨rfl, rfl⟩ := hpo
        refine Exists.intro _ (And.intro (c_wealthOf_22 hC hB (by omega)) (And.intro (And.intro (Nat.zero_le _) (Nat.zero_le _)) (fun q h' hpo => ?_)))
        obtain ⟨rfl, rfl⟩ := hpo
        refine And.intro (fun c => ?_) (fun c => ?_)
        · have c : nI (v_ws v 13 p (v 0 0 0)) ≤ nI (v_ws v 13 (v_rich v p) (v 0 0 0)) := c
          rw [nI_leI (by omega) (by omega)] at c
          rw [if_neg (by omega)] at e
          exact e
        · have c : ¬ nI (v_ws v 13 p (v 0 0 0)) ≤ nI (v_ws v 13 (v_rich v p) (v 0 0 0)) := c
          rw [nI_leI (by omega) (by omega)] at c
          rw [if_pos (by omega)] at e
          exact e
  unfold sp_richest
  refine x_Ct_w (by decide) (Nat.le_of_ble_eq_true rfl) ok115 [21] 4 ?_
  refine And.intro (fun c => ?_) (fun c => ?_)
  · have c : ¬ f 22 2 = nI 0 := c
    rw [h2, nI_eq (by omega) (by decide)] at c
    rw [if_neg c]
    obtain ⟨q, hq⟩ : ∃ q, v 2 0 0 = 1 + q := ⟨v 2 0 0 - 1, by omega⟩
    exact loop q 1 hq.symm (by decide)
  · have c : f 22 2 = nI 0 := c
    rw [h2, nI_eq (by omega) (by decide)] at c
    rw [if_pos c]
    refine Exists.intro _ (And.intro c_refuse (And.intro (And.intro (Nat.zero_le _) (Nat.zero_le _)) (fun q h' hpo => ?_)))
    obtain ⟨rfl, rfl⟩ := hpo
    refine And.intro ?_ ⟨trivial, Nat.le_refl _, Nat.le_refl _⟩
    exact x_PC_0 (by decide) hC
theorem c_give_22 {x y z w : Int32} (hC : v_C f g 22 v) (hB : v_B v) : x_Ct 121 (d + 4) [.ref 0, .int x, .int y, .int z, .int w] (f, g, x_HR 22 t, dm, n) (x_PC f g 22 (x_HR 22 t) dm n (sp_give v x y z w)) := by
  have bK := v_B_K hB
  have bG := v_B_G hB
  have bP := v_B_P hB
  have o0 : v_ok v 0 0 0 := ⟨rfl, rfl⟩
  have h0 : f 22 0 = nI (v 0 0 0) := hC.1 0 0 0 o0
  have b0 : v 0 0 0 ≤ 4 := (hB.1 0 0 0 o0).2
  have o2 : v_ok v 2 0 0 := ⟨rfl, rfl⟩
  have h2 : f 22 2 = nI (v 2 0 0) := hC.1 2 0 0 o2
  have b2 : v 2 0 0 ≤ 5 := (hB.1 2 0 0 o2).2
  unfold sp_give
  refine x_Ct_w (by decide) (Nat.le_of_ble_eq_true rfl) ok121 [] 12 ?_
  refine Exists.intro _ (And.intro (c_hasPurse rfl h0 bK h2 bP) (And.intro (And.intro (Nat.zero_le _) (Nat.zero_le _)) (fun q h' hpo => ?_)))
  obtain ⟨rfl, rfl⟩ := hpo
  cases hb : (x_ixb x (v 2 0 0) && x_ixb z (v 0 0 0)) with
  | false =>
    refine And.intro (fun _ => ?_) (fun c => absurd rfl c)
    refine Exists.intro _ (And.intro c_refused (And.intro (And.intro (Nat.zero_le _) (Nat.zero_le _)) (fun q h' hpo => ?_)))
    obtain ⟨rfl, rfl⟩ := hpo
    refine And.intro ?_ ⟨Or.inl rfl, Nat.le_refl _, Nat.le_refl _⟩
    exact x_PC_0 (by decide) hC
  | true =>
    refine And.intro (fun c => absurd c (by decide)) (fun _ => ?_)
    refine Exists.intro _ (And.intro (c_hasPerson rfl h2 bP) (And.intro (And.intro (Nat.zero_le _) (Nat.zero_le _)) (fun q h' hpo => ?_)))
    obtain ⟨rfl, rfl⟩ := hpo
    cases hy : x_ixb y (v 2 0 0) with
    | false =>
      refine And.intro (fun _ => ?_) (fun c => absurd rfl c)
      refine Exists.intro _ (And.intro c_refused (And.intro (And.intro (Nat.zero_le _) (Nat.zero_le _)) (fun q h' hpo => ?_)))
      obtain ⟨rfl, rfl⟩ := hpo
      refine And.intro ?_ ⟨Or.inl rfl, Nat.le_refl _, Nat.le_refl _⟩
      exact x_PC_0 (by decide) hC
    | true =>
      refine And.intro (fun c => absurd c (by decide)) (fun _ => ?_)
      refine And.intro (fun cxy => ?_) (fun cxy => ?_)
      · have cxy : x = y := cxy
        rw [decide_eq_false (not_not_intro cxy)]
        refine Exists.intro _ (And.intro c_refused (And.intro (And.intro (Nat.zero_le _) (Nat.zero_le _)) (fun q h' hpo => ?_)))
        obtain ⟨rfl, rfl⟩ := hpo
        refine And.intro ?_ ⟨Or.inl rfl, Nat.le_refl _, Nat.le_refl _⟩
        exact x_PC_0 (by decide) hC
      · have cxy : ¬ x = y := cxy
        rw [decide_eq_true (p := x ≠ y) cxy]
        refine Exists.intro _ (And.intro c_isAmount (And.intro (And.intro (Nat.zero_le _) (Nat.zero_le _)) (fun q h' hpo => ?_)))
        obtain ⟨rfl, rfl⟩ := hpo
        cases hw : x_wi w 1 999 with
        | false =>
          refine And.intro (fun c => absurd rfl c) (fun _ => ?_)
          refine Exists.intro _ (And.intro c_refused (And.intro (And.intro (Nat.zero_le _) (Nat.zero_le _)) (fun q h' hpo => ?_)))
          obtain ⟨rfl, rfl⟩ := hpo
          refine And.intro ?_ ⟨Or.inl rfl, Nat.le_refl _, Nat.le_refl _⟩
          exact x_PC_0 (by decide) hC
        | true =>
          refine And.intro (fun _ => ?_) (fun c => absurd c (by decide))
          rw [Bool.and_eq_true] at hb
          obtain ⟨p, hp, rfl⟩ := x_ixb_t hb.1 (by omega)
          obtain ⟨k, hk, rfl⟩ := x_ixb_t hb.2 (by omega)
          obtain ⟨p2, hp2, rfl⟩ := x_ixb_t hy (by omega)
          obtain ⟨m, hm1, hm, rfl⟩ := x_wi_t (lo := 1) (hi := 999) hw (by decide) (by decide)
          have hne : p ≠ p2 := fun e => cxy (by rw [e])
          rw [x_c, x_c, x_c, x_c, nI_clamp (by omega), nI_clamp (by omega), nI_clamp (by omega), nI_clamp (by omega)]
          refine Exists.intro _ (And.intro (c_handOver_22 hC hB hp hp2 hne hk hm) (And.intro (And.intro (Nat.zero_le _) (Nat.zero_le _)) (fun q h' hpo => ?_)))
          by_cases hc : v 13 p k < m ∨ 9999 < v 13 p2 k + m
          · rw [if_pos hc] at hpo
            rw [if_pos hc]
            obtain ⟨rfl, rfl⟩ := hpo
            refine And.intro (fun _ => ?_) (fun c => absurd rfl c)
            refine Exists.intro _ (And.intro c_refused (And.intro (And.intro (Nat.zero_le _) (Nat.zero_le _)) (fun q h' hpo => ?_)))
            obtain ⟨rfl, rfl⟩ := hpo
            refine And.intro ?_ ⟨Or.inl rfl, Nat.le_refl _, Nat.le_refl _⟩
            exact x_PC_0 (by decide) hC
          · rw [if_neg hc] at hpo
            rw [if_neg hc]
            obtain ⟨F, G, rfl, rfl, hC', hg', hf'⟩ := hpo
            refine And.intro (fun c => absurd c (by decide)) (fun _ => ?_)
            refine Exists.intro _ (And.intro c_agreed (And.intro (And.intro (Nat.zero_le _) (Nat.zero_le _)) (fun q h' hpo => ?_)))
            obtain ⟨rfl, rfl⟩ := hpo
            refine And.intro ?_ ⟨Or.inr rfl, Nat.le_refl _, Nat.le_refl _⟩
            exact x_PC_F (by decide) hC' hg' hf'
theorem c_rule_22 {x y : Int32} (hC : v_C f g 22 v) (hB : v_B v) : x_Ct 126 (d + 2) [.ref 0, .int x, .int y] (f, g, x_HR 22 t, dm, n) (x_PC f g 22 (x_HR 22 t) dm n (sp_rule v x y)) := by
  have bK := v_B_K hB
  have bG := v_B_G hB
  have bP := v_B_P hB
  unfold sp_rule
  refine x_Ct_w (by decide) (Nat.le_of_ble_eq_true rfl) ok126 [] 6 ?_
  refine Exists.intro _ (And.intro (c_within (lo := 0) (hi := 2)) (And.intro (And.intro (Nat.zero_le _) (Nat.zero_le _)) (fun q h' hpo => ?_)))
  obtain ⟨rfl, rfl⟩ := hpo
  cases hx : x_wi x 0 2 with
  | false =>
    refine And.intro (fun _ => ?_) (fun c => absurd rfl c)
    refine Exists.intro _ (And.intro c_refused (And.intro (And.intro (Nat.zero_le _) (Nat.zero_le _)) (fun q h' hpo => ?_)))
    obtain ⟨rfl, rfl⟩ := hpo
    refine And.intro ?_ ⟨Or.inl rfl, Nat.le_refl _, Nat.le_refl _⟩
    exact x_PC_0 (by decide) hC
  | true =>
    refine And.intro (fun c => absurd c (by decide)) (fun _ => ?_)
    obtain ⟨j, hj1, hj, rfl⟩ := x_wi_t (lo := 0) (hi := 2) hx (by decide) (by decide)
    refine And.intro (x_ix_nI (by omega) (by omega)) ?_
    refine And.intro (x_ix_nI (by omega) (by omega)) ?_
    have e1 : (x_SI 1000).map (fun q => q.2 (nI j).toNatClampNeg) = some (nI (v_rlo j)) ∧ (x_SI 1001).map (fun q => q.2 (nI j).toNatClampNeg) = some (nI (v_rhi j)) := by
      rw [nI_clamp (by omega)]
      obtain rfl | rfl | rfl : j = 0 ∨ j = 1 ∨ j = 2 := by omega
      · exact ⟨rfl, rfl⟩
      · exact ⟨rfl, rfl⟩
      · exact ⟨rfl, rfl⟩
    have e2 := Option.some.inj e1.1
    have e3 := Option.some.inj e1.2
    have cw := c_within (d := d + 1) (h := (f, g, x_HR 22 t, dm, n)) (x := y) (lo := nI (v_rlo j)) (hi := nI (v_rhi j))
    rw [← e2, ← e3] at cw
    refine Exists.intro _ (And.intro cw (And.intro (And.intro (Nat.zero_le _) (Nat.zero_le _)) (fun q h' hpo => ?_)))
    obtain ⟨rfl, rfl⟩ := hpo
    rw [e2, e3]
    rw [show x_c (nI j) = j from nI_clamp (by omega)]
    cases hy : x_wi y (nI (v_rlo j)) (nI (v_rhi j)) with
    | false =>
      refine And.intro (fun c => absurd rfl c) (fun _ => ?_)
      refine Exists.intro _ (And.intro c_refused (And.intro (And.intro (Nat.zero_le _) (Nat.zero_le _)) (fun q h' hpo => ?_)))
      obtain ⟨rfl, rfl⟩ := hpo
      refine And.intro ?_ ⟨Or.inl rfl, Nat.le_refl _, Nat.le_refl _⟩
      exact x_PC_0 (by decide) hC
    | true =>
      refine And.intro (fun _ => ?_) (fun c => absurd c (by decide))
      have hr : v_rlo j ≤ v_rhi j ∧ v_rhi j < 2 ^ 30 := by
        obtain rfl | rfl | rfl : j = 0 ∨ j = 1 ∨ j = 2 := by omega
        · decide
        · decide
        · decide
      obtain ⟨m, hm1, hm, rfl⟩ := x_wi_t (lo := v_rlo j) (hi := v_rhi j) hy hr.2 hr.1
      refine And.intro (x_ix_nI (by omega) (by omega)) ?_
      refine Exists.intro _ (And.intro c_agreed (And.intro (And.intro (Nat.zero_le _) (Nat.zero_le _)) (fun q h' hpo => ?_)))
      obtain ⟨rfl, rfl⟩ := hpo
      refine And.intro ?_ ⟨Or.inr rfl, Nat.le_refl _, Nat.le_refl _⟩
      rw [show x_c (nI m) = m from nI_clamp (by omega), nI_clamp (by omega)]
      obtain rfl | rfl | rfl : j = 0 ∨ j = 1 ∨ j = 2 := by omega
      · exact x_PC_L (by decide) (x_LC_set (x_LC_0 hC) bK bG (c := 3) (i := 0) (j := 0) ⟨rfl, rfl⟩ (by decide))
      · exact x_PC_L (by decide) (x_LC_set (x_LC_0 hC) bK bG (c := 4) (i := 0) (j := 0) ⟨rfl, rfl⟩ (by decide))
      · exact x_PC_L (by decide) (x_LC_set (x_LC_0 hC) bK bG (c := 5) (i := 0) (j := 0) ⟨rfl, rfl⟩ (by decide))
theorem c_monthsTill_22 {x : Int32} (hC : v_C f g 22 v) (hB : v_B v) : x_Ct 130 (d + 3) [.ref 0, .int x] (f, g, x_HR 22 t, dm, n) (x_PC f g 22 (x_HR 22 t) dm n (sp_monthsTill v x)) := by
  have bo := v_out_le hB
  have loop : ∀ m i l, i + m = 1000 → l ≤ 999 → x_J 130 (d + 3) (x_PC f g 22 (x_HR 22 t) dm n (x_sq 6 true (v_till v l m i) v)) 27 [some (.ref 0), some (.int (nI l)), some (.int (nI (v_out v))), some (.int (nI i))] [] (f, g, x_HR 22 t, dm, n) 0 0 := by
    intro m
    induction m with
    | zero =>
      intro i l hi hl
      refine x_wp_ok ok130 [27] 4 ?_
      refine And.intro (fun c => ?_) (fun c => ?_)
      · refine Exists.intro _ (And.intro c_refuse (And.intro (And.intro (Nat.zero_le _) (Nat.zero_le _)) (fun q h' hpo => ?_)))
        obtain ⟨rfl, rfl⟩ := hpo
        refine And.intro ?_ ⟨trivial, Nat.le_refl _, Nat.le_refl _⟩
        exact x_PC_0 (by decide) hC
      · have c : ¬ nI 999 < nI i := c
        rw [nI_ltI (by decide) (by omega)] at c
        omega
    | succ m ih =>
      intro i l hi hl
      have hv := v_lvl_le hB (m := i) (by omega)
      refine x_wp_ok ok130 [27] 4 ?_
      refine And.intro (fun c => ?_) (fun c => ?_)
      · have c : nI 999 < nI i := c
        rw [nI_ltI (by decide) (by omega)] at c
        omega
      · refine Exists.intro _ (And.intro (c_levelAfter_22 hC hB (show i ≤ 999 by omega) (by omega)) (And.intro (And.intro (Nat.zero_le _) (Nat.zero_le _)) (fun q h' hpo => ?_)))
        obtain ⟨rfl, rfl⟩ := hpo
        rw [show v_till v l (m + 1) i = if l < v_lvl v i then some (nI i, v) else v_till v l m (i + 1) from rfl]
        refine And.intro (fun c => ?_) (fun c => ?_)
        · have c : nI (v_lvl v i) ≤ nI l := c
          rw [nI_leI (by omega) (by omega)] at c
          rw [if_neg (by omega)]
          have e := ih (i + 1) l (by omega) hl
          rw [nI_succ] at e
          exact e
        · have c : ¬ nI (v_lvl v i) ≤ nI l := c
          rw [nI_leI (by omega) (by omega)] at c
          rw [if_pos (by omega)]
          refine Exists.intro _ (And.intro c_answer (And.intro (And.intro (Nat.zero_le _) (Nat.zero_le _)) (fun q h' hpo => ?_)))
          obtain ⟨rfl, rfl⟩ := hpo
          refine And.intro ?_ ⟨trivial, Nat.le_refl _, Nat.le_refl _⟩
          exact x_PC_0 (by decide) hC
  unfold sp_monthsTill
  refine x_Ct_w (by decide) (Nat.le_of_ble_eq_true rfl) ok130 [27] 4 ?_
  refine Exists.intro _ (And.intro (c_within (lo := 1) (hi := 999)) (And.intro (And.intro (Nat.zero_le _) (Nat.zero_le _)) (fun q h' hpo => ?_)))
  obtain ⟨rfl, rfl⟩ := hpo
  cases hz : x_wi x 1 999 with
  | false =>
    refine And.intro (fun c => absurd rfl c) (fun _ => ?_)
    refine Exists.intro _ (And.intro c_refuse (And.intro (And.intro (Nat.zero_le _) (Nat.zero_le _)) (fun q h' hpo => ?_)))
    obtain ⟨rfl, rfl⟩ := hpo
    refine And.intro ?_ ⟨trivial, Nat.le_refl _, Nat.le_refl _⟩
    exact x_PC_0 (by decide) hC
  | true =>
    refine And.intro (fun _ => ?_) (fun c => absurd c (by decide))
    obtain ⟨l, hl1, hl, rfl⟩ := x_wi_t (lo := 1) (hi := 999) hz (by decide) (by decide)
    rw [x_c, nI_clamp (by omega)]
    refine Exists.intro _ (And.intro (c_outNow_22 hC hB) (And.intro (And.intro (Nat.zero_le _) (Nat.zero_le _)) (fun q h' hpo => ?_)))
    obtain ⟨rfl, rfl⟩ := hpo
    exact loop 999 1 l (by decide) hl
end C26
