/-! REIGNS as lines: s 0 k what the line k is (11 pay, 12 buy, 13 sell, 14 tear, 15 mend, 16 month, 17 any, 18 when level, 19 when holds, 20 when left, 22 loop, 23 end, 24 stop), 1 and 2 who and what, 3 the number, 4 the partner, 5 the sign -/
abbrev xR : Type := Nat → Nat → Nat
def y_dr (ch : Nat) : Nat := (ch * 3079 + 11299) % 65536
def s_mn (v : xV) (m : Nat) : Option (Int32 × xV) := if 9999 < v 6 0 0 + m then none else some (1, d_mon v m)
def y_ac (s : xR) (v : xV) (ch k : Nat) : Option (Int32 × xV) := match s 0 k with
  | 11 => s_pay v (s 1 k) (s 2 k) (s 3 k)
  | 12 => s_buy v (s 1 k) (s 2 k) (s 3 k)
  | 13 => s_sell v (s 1 k) (s 2 k) (s 3 k)
  | 14 => s_tear v (s 1 k) (s 2 k) (s 3 k)
  | 15 => s_mend v (s 1 k) (s 2 k) (s 3 k)
  | 16 => s_mn v (s 3 k)
  | 17 => if v 2 0 0 = 0 ∨ v 1 0 0 = 0 then none else s_buy v (y_dr ch / 8 % v 2 0 0) (y_dr (y_dr ch) / 8 % v 1 0 0) 1
  | _ => some (1, v)
def y_is (o : Option (Int32 × xV)) (a b : Nat) : Nat := match o with
  | none => b
  | some _ => a
def y_cc (s : xR) (v : xV) (ch k : Nat) : Nat := if s 0 k = 17 ∧ ¬ (v 2 0 0 = 0 ∨ v 1 0 0 = 0) then y_dr (y_dr ch) else ch
def y_mo (s : xR) (v : xV) (ch k : Nat) : Nat := if s 0 k = 16 then y_is (y_ac s v ch k) (s 3 k) 0 else 0
def y_bo (s : xR) (v : xV) (ch k : Nat) : Nat := if s 0 k = 12 then y_is (y_ac s v ch k) (s 3 k) 0 else if s 0 k = 17 then y_is (y_ac s v ch k) 1 0 else 0
def y_se (s : xR) (v : xV) (k : Nat) : Nat := if s 0 k = 18 then v 7 0 0 else if s 0 k = 19 then v_ws v 13 (s 1 k) (v 0 0 0) else v 11 (s 1 k) 0
def y_te (s : xR) (v : xV) (k : Nat) : Bool := if s 5 k = 60 then decide (y_se s v k < s 3 k) else if s 5 k = 62 then decide (s 3 k < y_se s v k) else decide (y_se s v k = s 3 k)
def y_wn (s : xR) (k : Nat) : Bool := decide (s 0 k = 18 ∨ s 0 k = 19 ∨ s 0 k = 20)
def y_op (s : xR) (k : Nat) : Prop := (s 0 k = 18 ∨ s 0 k = 19 ∨ s 0 k = 20) ∨ s 0 k = 22
def y_nx (s : xR) (NL : Nat) (v : xV) (k : Nat) : Nat := if s 0 k = 24 then NL else if y_wn s k = true ∧ y_te s v k = false then s 4 k + 1 else k + 1
/-- where a life stands: line, rounds, land, chance, steps, missed, months, bought, whether a step was left -/
abbrev xW : Type := Nat × (Nat → Nat) × xV × Nat × Nat × Nat × Nat × Nat × Bool
def y_ek (s : xR) (R : Nat → Nat) (k : Nat) : Nat := if s 0 (s 4 k) = 22 ∧ 1 < R (s 4 k) then s 4 k + 1 else k + 1
def y_eR (s : xR) (R : Nat → Nat) (k : Nat) : Nat → Nat := if s 0 (s 4 k) = 22 then va_up R (s 4 k) (R (s 4 k) - 1) else R
def y_sR (s : xR) (R : Nat → Nat) (k : Nat) : Nat → Nat := if s 0 k = 22 then va_up R k (s 3 k) else R
def y_one (s : xR) (NL : Nat) : xW → xW := fun (k, R, v, ch, st, mi, mo, bo, le) =>
  if s 0 k = 23 then (y_ek s R k, y_eR s R k, v, ch, st, mi, mo, bo, le)
  else if 300 ≤ st then (NL, R, v, ch, st, mi, mo, bo, true)
  else (y_nx s NL (x_oV v (y_ac s v ch k)) k, y_sR s R k, x_oV v (y_ac s v ch k), y_cc s v ch k, st + 1, mi + y_is (y_ac s v ch k) 0 1, mo + y_mo s v ch k, bo + y_bo s v ch k, le)
def y_it (s : xR) (NL : Nat) : Nat → xW → xW
  | 0, e => e
  | m + 1, e => if e.1 < NL then y_it s NL m (y_one s NL e) else e
def y_ps (s : xR) (R : Nat → Nat) (k : Nat) : Nat := if s 0 k = 23 then (if s 0 (s 4 k) = 22 ∧ s 4 k + 1 = k then R (s 4 k) else 0) + (60 - k) else 0
def y_mu (s : xR) (NL : Nat) : xW → Nat := fun (k, R, _, _, st, _, _, _, _) => if k < NL then 1 + 161 * (300 - st) + y_ps s R k else 0
def y_fin (s : xR) (NL : Nat) (e : xW) : xW := y_it s NL 50000 e
/-- what a line of REIGNS may be -/
def y_li (s : xR) (P K G k : Nat) : Prop :=
  ((s 0 k = 11 ∨ s 0 k = 14 ∨ s 0 k = 15) ∧ s 1 k < P ∧ s 2 k < K ∧ 1 ≤ s 3 k ∧ s 3 k ≤ 99) ∨ ((s 0 k = 12 ∨ s 0 k = 13) ∧ s 1 k < P ∧ s 2 k < G ∧ 1 ≤ s 3 k ∧ s 3 k ≤ 99) ∨ (s 0 k = 16 ∧ 1 ≤ s 3 k ∧ s 3 k ≤ 20) ∨ (s 0 k = 17 ∨ s 0 k = 24) ∨
  ((s 0 k = 18 ∨ (s 0 k = 19 ∧ s 1 k < P) ∨ (s 0 k = 20 ∧ s 1 k < G)) ∧ s 3 k ≤ 9999 ∧ s 5 k ≤ 62) ∨ (s 0 k = 22 ∧ 1 ≤ s 3 k ∧ s 3 k ≤ 99) ∨ s 0 k = 23
def y_SV (s : xR) (NL P K G : Nat) : Prop := NL ≤ 60 ∧ (∀ k, k < NL → y_li s P K G k) ∧ (∀ k, k < NL → y_op s k → k < s 4 k ∧ s 4 k < NL ∧ s 0 (s 4 k) = 23) ∧ (∀ k, k < NL → s 0 k = 23 → s 4 k < k ∧ y_op s (s 4 k) ∧ s 4 (s 4 k) = k) ∧ ∀ b c, b < c → c < s 4 b → s 4 b < NL → y_op s b → y_op s c → s 4 c < s 4 b
def y_in (s : xR) (NL N q0 : Nat) (v0 : xV) : xW → Prop := fun (k, R, v, ch, st, mi, mo, bo, _) =>
  k ≤ NL ∧ st ≤ 300 ∧ ch < 65536 ∧ mi ≤ st ∧ mo ≤ 20 * st ∧ bo ≤ 99 * st ∧ v_Bn (N + 998001 * st) v ∧ (∀ c, c ≤ 2 → v c 0 0 = v0 c 0 0) ∧ q0 ≤ v 16 0 0 ∧ v 16 0 0 ≤ q0 + 49500 * st ∧ (k < NL → ∀ b, b < k → k ≤ s 4 b → s 0 b = 22 → 1 ≤ R b ∧ R b ≤ 99)
/-! the deeds keep the bounds -/
theorem v_ok_13 {v : xV} {p k : Nat} (hp : p < v 2 0 0) (hk : k < v 0 0 0) : v_ok v 13 p k := show p < v 2 0 0 ∧ k < v 0 0 0 from ⟨hp, hk⟩
theorem v_ok_14 {v : xV} {p k : Nat} (hp : p < v 2 0 0) (hk : k < v 0 0 0) : v_ok v 14 p k := show p < v 2 0 0 ∧ k < v 0 0 0 from ⟨hp, hk⟩
theorem v_Bn_9 {N : Nat} {v : xV} (h : v_Bn N v) {k : Nat} (hk : k < v 0 0 0) : v 9 k 0 ≤ 500 := (h.1 9 k 0 (show k < v 0 0 0 ∧ 0 = 0 from ⟨hk, rfl⟩)).2
theorem v_Bn_pay {N : Nat} {v : xV} (h : v_Bn N v) {p k m : Nat} (hp : p < v 2 0 0) (hk : k < v 0 0 0) (hm : m ≤ 999) (ho : v 13 p k + m ≤ 9999) : v_Bn (N + 499500) (d_pay v p k m) := by
  have h9 := v_Bn_9 h hk
  have e : m * v 9 k 0 ≤ 999 * 500 := Nat.mul_le_mul hm h9
  have hx := h.2.2.1
  exact v_Bn_16 (v_Bn_set h (v_ok_13 hp hk) (by decide) (by decide) (by decide) (Nat.zero_le _) ho) (by omega) (by omega)
theorem v_Bn_tear {N : Nat} {v : xV} (h : v_Bn N v) {p k m : Nat} (hp : p < v 2 0 0) (hk : k < v 0 0 0) (ho : v 14 p k + m ≤ 9999) : v_Bn N (d_tear v p k m) := by
  have b13 : v 13 p k ≤ 9999 := (h.1 13 p k (v_ok_13 hp hk)).2
  refine v_Bn_set (v_Bn_set h (v_ok_13 hp hk) (by decide) (by decide) (by decide) (Nat.zero_le _) (show v 13 p k - m ≤ 9999 by omega)) ?_ (by decide) (by decide) (by decide) (Nat.zero_le _) ho
  exact (v_ok_set (by decide)).mpr (v_ok_14 hp hk)
theorem v_Bn_mend {N : Nat} {v : xV} (h : v_Bn N v) {p k m : Nat} (hp : p < v 2 0 0) (hk : k < v 0 0 0) (hm : m ≤ 999) : v_Bn (N + 499500) (d_mend v p k m) := by
  have b13 : v 13 p k ≤ 9999 := (h.1 13 p k (v_ok_13 hp hk)).2
  have b14 : v 14 p k ≤ 9999 := (h.1 14 p k (v_ok_14 hp hk)).2
  have h9 := v_Bn_9 h hk
  have e : (m - d_back v p k m) * v 9 k 0 ≤ 999 * 500 := Nat.mul_le_mul (by omega) h9
  have eb : v 13 p k + d_back v p k m ≤ 9999 := by
    have : d_back v p k m ≤ 9999 - v 13 p k := Nat.min_le_right _ _
    omega
  have hx := h.2.2.2
  have h1 := v_Bn_set h (v_ok_14 hp hk) (x := v 14 p k - m) (by decide) (by decide) (by decide) (Nat.zero_le _) (show v 14 p k - m ≤ 9999 by omega)
  have h2 := v_Bn_set h1 ((v_ok_set (by decide)).mpr (v_ok_13 hp hk)) (x := v 13 p k + d_back v p k m) (by decide) (by decide) (by decide) (Nat.zero_le _) eb
  exact v_Bn_17 h2 (by omega) (by omega)
theorem v_Bn_buy {N : Nat} {v : xV} (h : v_Bn N v) {p i m : Nat} (hp : p < v 2 0 0) (hi : i < v 1 0 0) (hc : v_cb v p i m = true) : v_Bn (N + 999) (d_buy v p i m) := by
  obtain ⟨b1, b2, b3, b4⟩ := v_cb_at hc
  have hx := h.2.2.2
  have h1 := v_Bn_17 h (M := N + 999) (x := v 17 0 0 + v_S v i m) (by omega) (by omega)
  exact v_Bn_tb h1 _ hp hi b2
theorem v_cs_at {v : xV} {p i m : Nat} (h : v_cs v p i m = true) : m ≤ v 15 p i ∧ v 11 i 0 + m ≤ 9999 ∧ v_S v i m ≤ 999 ∧ v_fewP v (v_S v i m) < 1000000 ∧ ∀ k, k < v 0 0 0 → v 13 p k + v_vecP v (v_S v i m) k ≤ 9999 := by
  simpa only [v_cs, Bool.and_eq_true, decide_eq_true_eq, v_rm, List.all_eq_true, List.mem_range] using h
theorem v_Bn_sell {N : Nat} {v : xV} (h : v_Bn N v) {p i m : Nat} (hp : p < v 2 0 0) (hi : i < v 1 0 0) (hc : v_cs v p i m = true) : v_Bn (N + 999) (d_sell v p i m) := by
  obtain ⟨b1, b2, b3, b4, b5⟩ := v_cs_at hc
  have hx := h.2.2.1
  have h1 := v_Bn_16 h (M := N + 999) (x := v 16 0 0 + v_S v i m) (by omega) (by omega)
  exact v_Bn_ts h1 hp hi b2 b5
/-- what an act leaves of the land -/
def y_kp (N : Nat) (v v' : xV) : Prop := v_Bn (N + 998001) v' ∧ (∀ c, c ≤ 2 → v' c 0 0 = v c 0 0) ∧ v 16 0 0 ≤ v' 16 0 0 ∧ v' 16 0 0 ≤ v 16 0 0 + 49500
theorem y_kp_0 {N : Nat} {v : xV} (h : v_Bn N v) : y_kp N v v := ⟨v_Bn_mono h (by omega), fun _ _ => rfl, Nat.le_refl _, by omega⟩
theorem y_kp_buy {N : Nat} {v : xV} (h : v_Bn N v) {p i m : Nat} (hp : p < v 2 0 0) (hi : i < v 1 0 0) : y_kp N v (x_oV v (s_buy v p i m)) := by
  unfold s_buy
  split
  · rename_i hc
    refine ⟨v_Bn_mono (v_Bn_buy h hp hi hc) (by omega), fun c hc => ?_, ?_, ?_⟩
    · show d_tb _ p i m _ c 0 0 = _
      rw [d_tb_c (by omega) (by omega) (by omega), v_set_c (by omega)]
    · show _ ≤ d_tb _ p i m _ 16 0 0
      rw [d_tb_c (by decide) (by decide) (by decide), v_set_c (by decide)]
      exact Nat.le_refl _
    · show d_tb _ p i m _ 16 0 0 ≤ _
      rw [d_tb_c (by decide) (by decide) (by decide), v_set_c (by decide)]
      omega
  · exact y_kp_0 h
theorem y_ac_kp {s : xR} {N : Nat} {v : xV} (ch : Nat) {k : Nat} (hl : y_li s (v 2 0 0) (v 0 0 0) (v 1 0 0) k) (h : v_Bn N v) (hN : N + 998001 < 2 ^ 60) : y_kp N v (x_oV v (y_ac s v ch k)) := by
  obtain ⟨p, hp⟩ : ∃ p, s 1 k = p := ⟨_, rfl⟩
  obtain ⟨i, hi⟩ : ∃ i, s 2 k = i := ⟨_, rfl⟩
  obtain ⟨m, hm⟩ : ∃ m, s 3 k = m := ⟨_, rfl⟩
  unfold y_li at hl
  rw [hp, hi, hm] at hl
  rcases hl with ⟨hx | hx | hx, h1, h2, h3, h4⟩ | ⟨hx | hx, h1, h2, h3, h4⟩ | ⟨hx, h3, h4⟩ | (hx | hx) | ⟨hx | ⟨hx, h1⟩ | ⟨hx, h1⟩, h3, h4⟩ | ⟨hx, h3, h4⟩ | hx
  · rw [show y_ac s v ch k = s_pay v p i m by unfold y_ac; rw [hx, hp, hi, hm]; rfl]
    unfold s_pay
    split
    · exact y_kp_0 h
    · rename_i hc
      have h9 := v_Bn_9 h h2
      have e : m * v 9 i 0 ≤ 99 * 500 := Nat.mul_le_mul h4 h9
      have e16 : d_pay v p i m 16 0 0 = v 16 0 0 + m * v 9 i 0 := v_set_s _ _ _ _ _
      refine ⟨v_Bn_mono (v_Bn_pay h h1 h2 (by omega) (by omega)) (by omega), fun c hc => ?_, ?_, ?_⟩
      · show d_pay v p i m c 0 0 = _
        unfold d_pay
        rw [v_set_c (by omega), v_set_c (by omega)]
      · show _ ≤ d_pay v p i m 16 0 0
        omega
      · show d_pay v p i m 16 0 0 ≤ _
        omega
  · rw [show y_ac s v ch k = s_tear v p i m by unfold y_ac; rw [hx, hp, hi, hm]; rfl]
    unfold s_tear
    split
    · exact y_kp_0 h
    · rename_i hc
      have e16 : d_tear v p i m 16 0 0 = v 16 0 0 := by
        unfold d_tear
        rw [v_set_c (by omega), v_set_c (by omega)]
      refine ⟨v_Bn_mono (v_Bn_tear h h1 h2 (by omega)) (by omega), fun c hc => ?_, ?_, ?_⟩
      · show d_tear v p i m c 0 0 = _
        unfold d_tear
        rw [v_set_c (by omega), v_set_c (by omega)]
      · show _ ≤ d_tear v p i m 16 0 0
        omega
      · show d_tear v p i m 16 0 0 ≤ _
        omega
  · rw [show y_ac s v ch k = s_mend v p i m by unfold y_ac; rw [hx, hp, hi, hm]; rfl]
    unfold s_mend
    split
    · exact y_kp_0 h
    · rename_i hc
      have e16 : d_mend v p i m 16 0 0 = v 16 0 0 := by
        unfold d_mend
        rw [v_set_c (by omega), v_set_c (by omega), v_set_c (by omega)]
      refine ⟨v_Bn_mono (v_Bn_mend h h1 h2 (by omega)) (by omega), fun c hc => ?_, ?_, ?_⟩
      · show d_mend v p i m c 0 0 = _
        unfold d_mend
        rw [v_set_c (by omega), v_set_c (by omega), v_set_c (by omega)]
      · show _ ≤ d_mend v p i m 16 0 0
        omega
      · show d_mend v p i m 16 0 0 ≤ _
        omega
  · rw [show y_ac s v ch k = s_buy v p i m by unfold y_ac; rw [hx, hp, hi, hm]; rfl]
    exact y_kp_buy h h1 h2
  · rw [show y_ac s v ch k = s_sell v p i m by unfold y_ac; rw [hx, hp, hi, hm]; rfl]
    unfold s_sell
    split
    · rename_i hc
      obtain ⟨b1, b2, b3, b4, b5⟩ := v_cs_at hc
      have e16 : d_sell v p i m 16 0 0 = v 16 0 0 + v_S v i m := by
        unfold d_sell
        rw [d_ts_c (by decide) (by decide) (by decide), v_set_s]
      refine ⟨v_Bn_mono (v_Bn_sell h h1 h2 hc) (by omega), fun c hc => ?_, ?_, ?_⟩
      · show d_sell v p i m c 0 0 = _
        unfold d_sell
        rw [d_ts_c (by omega) (by omega) (by omega), v_set_c (by omega)]
      · show _ ≤ d_sell v p i m 16 0 0
        omega
      · show d_sell v p i m 16 0 0 ≤ _
        omega
    · exact y_kp_0 h
  · rw [show y_ac s v ch k = s_mn v m by unfold y_ac; rw [hx, hm]; rfl]
    unfold s_mn
    split
    · exact y_kp_0 h
    · rename_i hc
      have b5 : v 5 0 0 ≤ 999 := (h.1 5 0 0 ⟨rfl, rfl⟩).2
      have e : m * v 5 0 0 ≤ 20 * 999 := Nat.mul_le_mul h4 b5
      have e16 : d_mon v m 16 0 0 = v 16 0 0 + m * v 5 0 0 := by
        unfold d_mon
        rw [v_set_c (by decide)]
        exact v_set_s _ _ _ _ _
      refine ⟨v_Bn_mon h hN (by omega) (by omega), fun c hc => ?_, ?_, ?_⟩
      · show d_mon v m c 0 0 = _
        unfold d_mon d_mon1
        rw [v_set_c (by omega), v_set_c (by omega), v_set_c (by omega), v_set_c (by omega)]
      · show _ ≤ d_mon v m 16 0 0
        omega
      · show d_mon v m 16 0 0 ≤ _
        omega
  · rw [show y_ac s v ch k = (if v 2 0 0 = 0 ∨ v 1 0 0 = 0 then none else s_buy v (y_dr ch / 8 % v 2 0 0) (y_dr (y_dr ch) / 8 % v 1 0 0) 1) by unfold y_ac; rw [hx]; rfl]
    split
    · exact y_kp_0 h
    · rename_i hc
      exact y_kp_buy h (Nat.mod_lt _ (by omega)) (Nat.mod_lt _ (by omega))
  all_goals
    rw [show y_ac s v ch k = some (1, v) by unfold y_ac; rw [hx]; rfl]
    exact y_kp_0 h
/-! the machine: what one turn keeps, and that it comes to an end -/
theorem y_cc_lt {s : xR} {v : xV} {ch k : Nat} (h : ch < 65536) : y_cc s v ch k < 65536 := by
  unfold y_cc
  split
  · exact Nat.mod_lt _ (by decide)
  · exact h
theorem y_is_le (o : Option (Int32 × xV)) {a b c : Nat} (h1 : a ≤ c) (h2 : b ≤ c) : y_is o a b ≤ c := by
  cases o with
  | none => exact h2
  | some _ => exact h1
theorem y_SV_end {s : xR} {NL P K G k : Nat} (hS : y_SV s NL P K G) (hk : k < NL) (h : s 0 k = 23) : s 4 k < k ∧ y_op s (s 4 k) ∧ s 4 (s 4 k) = k := hS.2.2.2.1 k hk h
theorem y_op_n {s : xR} {k : Nat} (h : y_op s k) : s 0 k ≠ 23 := by
  unfold y_op at h
  omega
theorem y_in_one {s : xR} {NL N q0 : Nat} {v0 : xV} {k : Nat} {R : Nat → Nat} {v : xV} {ch st mi mo bo : Nat} {le : Bool} (hS : y_SV s NL (v0 2 0 0) (v0 0 0 0) (v0 1 0 0)) (hN : N + 2 ^ 33 < 2 ^ 60) (hk : k < NL) (h : y_in s NL N q0 v0 (k, R, v, ch, st, mi, mo, bo, le)) : y_in s NL N q0 v0 (y_one s NL (k, R, v, ch, st, mi, mo, bo, le)) ∧ y_mu s NL (y_one s NL (k, R, v, ch, st, mi, mo, bo, le)) < y_mu s NL (k, R, v, ch, st, mi, mo, bo, le) := by
  obtain ⟨h1, h2, h3, h4, h5, h6, h7, h8, h9, h10, h11⟩ := h
  have h11 := h11 hk
  have hNL := hS.1
  by_cases he : s 0 k = 23
  · obtain ⟨e1, e2, e3⟩ := y_SV_end hS hk he
    have eo : y_one s NL (k, R, v, ch, st, mi, mo, bo, le) = (y_ek s R k, y_eR s R k, v, ch, st, mi, mo, bo, le) := if_pos he
    rw [eo]
    have enc : ∀ b, b < y_ek s R k → y_ek s R k ≤ s 4 b → y_ek s R k < NL → s 0 b = 22 → 1 ≤ y_eR s R k b ∧ y_eR s R k b ≤ 99 := by
      intro b b1 b2 b4 b3
      have bo : y_op s b := Or.inr b3
      unfold y_ek at b1 b2 b4
      by_cases hj : s 0 (s 4 k) = 22 ∧ 1 < R (s 4 k)
      · rw [if_pos hj] at b1 b2 b4
        have er : y_eR s R k = va_up R (s 4 k) (R (s 4 k) - 1) := if_pos hj.1
        rw [er]
        have hb := h11 (s 4 k) e1 (by omega) hj.1
        by_cases hbb : b = s 4 k
        · rw [hbb, x_us]
          omega
        · rw [x_un hbb]
          have hlt : b < s 4 k := by omega
          have := hS.2.2.1 b (by omega) bo
          have nst := hS.2.2.2.2 b (s 4 k) hlt (by omega) this.2.1 bo e2
          exact h11 b (by omega) (by omega) b3
      · rw [if_neg hj] at b1 b2 b4
        have hbk : b ≠ k := fun q => by rw [q] at b3; omega
        have hbp : b ≠ s 4 k := fun q => by rw [q] at b2; omega
        have er : y_eR s R k b = R b := by
          unfold y_eR
          split
          · exact x_un hbp
          · rfl
        rw [er]
        exact h11 b (by omega) (by omega) b3
    have hle : y_ek s R k ≤ NL := by
      unfold y_ek
      split <;> omega
    refine ⟨⟨hle, h2, h3, h4, h5, h6, h7, h8, h9, h10, fun q b b1 b2 b3 => enc b b1 b2 q b3⟩, ?_⟩
    show (if y_ek s R k < NL then 1 + 161 * (300 - st) + y_ps s (y_eR s R k) (y_ek s R k) else 0) < (if k < NL then 1 + 161 * (300 - st) + y_ps s R k else 0)
    rw [if_pos hk]
    have hps : y_ps s R k = (if s 0 (s 4 k) = 22 ∧ s 4 k + 1 = k then R (s 4 k) else 0) + (60 - k) := if_pos he
    split
    · rename_i hlt
      have key : y_ps s (y_eR s R k) (y_ek s R k) < y_ps s R k := by
        rw [hps]
        by_cases hj : s 0 (s 4 k) = 22 ∧ 1 < R (s 4 k)
        · have ek : y_ek s R k = s 4 k + 1 := if_pos hj
          have er : y_eR s R k = va_up R (s 4 k) (R (s 4 k) - 1) := if_pos hj.1
          rw [ek, er]
          by_cases hemp : s 4 k + 1 = k
          · rw [hemp, if_pos ⟨hj.1, rfl⟩]
            unfold y_ps
            rw [if_pos he, if_pos ⟨hj.1, hemp⟩, x_us]
            omega
          · have hne : s 0 (s 4 k + 1) ≠ 23 := by
              intro q
              obtain ⟨g1, g2, g3⟩ := y_SV_end hS (k := s 4 k + 1) (by omega) q
              by_cases hq : s 4 (s 4 k + 1) = s 4 k
              · rw [hq] at g3
                omega
              · have := hS.2.2.2.2 (s 4 (s 4 k + 1)) (s 4 k) (by omega) (by omega) (by omega) g2 e2
                omega
            unfold y_ps
            rw [if_neg hne]
            omega
        · have ek : y_ek s R k = k + 1 := if_neg hj
          rw [ek] at hlt ⊢
          unfold y_ps
          by_cases he2 : s 0 (k + 1) = 23
          · rw [if_pos he2, if_neg (c := s 0 (s 4 (k + 1)) = 22 ∧ s 4 (k + 1) + 1 = k + 1)]
            · omega
            · intro q
              have : s 4 (k + 1) = k := by omega
              rw [this, he] at q
              omega
          · rw [if_neg he2]
            omega
      omega
    · omega
  · by_cases hst : 300 ≤ st
    · have eo : y_one s NL (k, R, v, ch, st, mi, mo, bo, le) = (NL, R, v, ch, st, mi, mo, bo, true) := (if_neg he).trans (if_pos hst)
      rw [eo]
      refine ⟨⟨Nat.le_refl _, h2, h3, h4, h5, h6, h7, h8, h9, h10, fun q => absurd q (Nat.lt_irrefl _)⟩, ?_⟩
      show (if NL < NL then 1 + 161 * (300 - st) + y_ps s R NL else 0) < (if k < NL then 1 + 161 * (300 - st) + y_ps s R k else 0)
      rw [if_neg (Nat.lt_irrefl _), if_pos hk]
      omega
    · obtain ⟨v', hv'⟩ : ∃ v', v' = x_oV v (y_ac s v ch k) := ⟨_, rfl⟩
      have eo : y_one s NL (k, R, v, ch, st, mi, mo, bo, le) = (y_nx s NL v' k, y_sR s R k, v', y_cc s v ch k, st + 1, mi + y_is (y_ac s v ch k) 0 1, mo + y_mo s v ch k, bo + y_bo s v ch k, le) := by rw [hv']; exact (if_neg he).trans (if_neg hst)
      rw [eo]
      have hli := hS.2.1 k hk
      have hkp : y_kp (N + 998001 * st) v v' := by
        rw [hv']
        refine y_ac_kp ch ?_ h7 (by omega)
        rw [h8 0 (by decide), h8 1 (by decide), h8 2 (by decide)]
        exact hli
      obtain ⟨k1, k2, k3, k4⟩ := hkp
      have h3' : s 0 k = 16 ∨ s 0 k = 12 → s 3 k ≤ 99 ∧ (s 0 k = 16 → s 3 k ≤ 20) := by
        unfold y_li at hli
        intro q
        rcases q with q | q <;> rw [q] at hli <;> omega
      have m1 : y_is (y_ac s v ch k) 0 1 ≤ 1 := y_is_le _ (by decide) (by decide)
      have m2 : y_mo s v ch k ≤ 20 := by
        unfold y_mo
        split
        · rename_i q
          exact y_is_le _ ((h3' (Or.inl q)).2 q) (by decide)
        · exact Nat.zero_le _
      have m3 : y_bo s v ch k ≤ 99 := by
        unfold y_bo
        split
        · rename_i q
          exact y_is_le _ (h3' (Or.inr q)).1 (by decide)
        · split
          · exact y_is_le _ (by decide) (by decide)
          · exact Nat.zero_le _
      have hnx : y_nx s NL v' k ≤ NL ∧ (y_nx s NL v' k < NL → (y_nx s NL v' k = s 4 k + 1 ∧ y_op s k) ∨ y_nx s NL v' k = k + 1) := by
        unfold y_nx
        split
        · exact ⟨Nat.le_refl _, fun q => absurd q (Nat.lt_irrefl _)⟩
        · split
          · rename_i q
            have ho : y_op s k := Or.inl (of_decide_eq_true q.1)
            have := hS.2.2.1 k hk ho
            exact ⟨by omega, fun _ => Or.inl ⟨rfl, ho⟩⟩
          · exact ⟨by omega, fun _ => Or.inr rfl⟩
      have hsR : ∀ b, b ≠ k → y_sR s R k b = R b := by
        intro b hb
        unfold y_sR
        split
        · exact x_un hb
        · rfl
      have hsk : s 0 k = 22 → y_sR s R k k = s 3 k ∧ 1 ≤ s 3 k ∧ s 3 k ≤ 99 := by
        intro q
        unfold y_sR
        rw [if_pos q, x_us]
        unfold y_li at hli
        rw [q] at hli
        omega
      have enc : y_nx s NL v' k < NL → ∀ b, b < y_nx s NL v' k → y_nx s NL v' k ≤ s 4 b → s 0 b = 22 → 1 ≤ y_sR s R k b ∧ y_sR s R k b ≤ 99 := by
        intro q b b1 b2 b3
        by_cases hb : b = k
        · rw [hb] at b3 ⊢
          have := hsk b3
          omega
        · rw [hsR b hb]
          have bo : y_op s b := Or.inr b3
          rcases hnx.2 q with ⟨e, ho⟩ | e
          · rw [e] at b1 b2 q
            have hp := hS.2.2.1 k hk ho
            have hb4 : b ≠ s 4 k := fun q => by rw [q] at b3; omega
            by_cases hbk : b < k
            · exact h11 b hbk (by omega) b3
            · have := hS.2.2.2.2 k b (by omega) (by omega) hp.2.1 ho bo
              omega
          · rw [e] at b1 b2
            exact h11 b (by omega) (by omega) b3
      have n1 : st + 1 ≤ 300 := by omega
      have n4 : mi + y_is (y_ac s v ch k) 0 1 ≤ st + 1 := Nat.add_le_add h4 m1
      have n5 : mo + y_mo s v ch k ≤ 20 * (st + 1) := Nat.le_trans (Nat.add_le_add h5 m2) (by omega)
      have n6 : bo + y_bo s v ch k ≤ 99 * (st + 1) := Nat.le_trans (Nat.add_le_add h6 m3) (by omega)
      have n9 : q0 ≤ v' 16 0 0 := Nat.le_trans h9 k3
      have n10 : v' 16 0 0 ≤ q0 + 49500 * (st + 1) := Nat.le_trans k4 (by omega)
      refine ⟨⟨hnx.1, n1, y_cc_lt h3, n4, n5, n6, ?_, fun c hc => (k2 c hc).trans (h8 c hc), n9, n10, enc⟩, ?_⟩
      · rw [show N + 998001 * (st + 1) = N + 998001 * st + 998001 by omega]
        exact k1
      · show (if y_nx s NL v' k < NL then 1 + 161 * (300 - (st + 1)) + y_ps s (y_sR s R k) (y_nx s NL v' k) else 0) < (if k < NL then 1 + 161 * (300 - st) + y_ps s R k else 0)
        rw [if_pos hk]
        have hps : y_nx s NL v' k < NL → y_ps s (y_sR s R k) (y_nx s NL v' k) ≤ 160 := by
          intro q
          unfold y_ps
          split
          · rename_i q2
            split
            · rename_i q3
              have := enc q (s 4 (y_nx s NL v' k)) (by omega) (by have := (y_SV_end hS q q2).2.2; omega) q3.1
              omega
            · omega
          · omega
        split
        · rename_i q
          have := hps q
          omega
        · omega
theorem y_it_S {s : xR} {NL m : Nat} {e : xW} (h : e.1 < NL) : y_it s NL (m + 1) e = y_it s NL m (y_one s NL e) := if_pos h
theorem y_it_0 {s : xR} {NL : Nat} {e : xW} (h : ¬ e.1 < NL) : ∀ m, y_it s NL m e = e
  | 0 => rfl
  | _ + 1 => if_neg h
theorem y_it_st {s : xR} {NL N q0 : Nat} {v0 : xV} (hS : y_SV s NL (v0 2 0 0) (v0 0 0 0) (v0 1 0 0)) (hN : N + 2 ^ 33 < 2 ^ 60) : ∀ m M e, y_in s NL N q0 v0 e → y_mu s NL e ≤ m → m ≤ M → y_it s NL M e = y_it s NL m e := by
  intro m
  induction m with
  | zero =>
    intro M e hi h1 h2
    have : ¬ e.1 < NL := by
      intro q
      have : y_mu s NL e = 1 + 161 * (300 - e.2.2.2.2.1) + y_ps s e.2.1 e.1 := if_pos q
      omega
    rw [y_it_0 this, y_it_0 this]
  | succ m ih =>
    intro M e hi h1 h2
    by_cases q : e.1 < NL
    · obtain ⟨M, rfl⟩ : ∃ M', M = M' + 1 := ⟨M - 1, by omega⟩
      obtain ⟨k, R, v, ch, st, mi, mo, bo, le⟩ := e
      have := y_in_one hS hN (show k < NL from q) hi
      rw [y_it_S q, y_it_S q]
      exact ih M _ this.1 (by omega) (by omega)
    · rw [y_it_0 q, y_it_0 q]
theorem y_fin_one {s : xR} {NL N q0 : Nat} {v0 : xV} (hS : y_SV s NL (v0 2 0 0) (v0 0 0 0) (v0 1 0 0)) (hN : N + 2 ^ 33 < 2 ^ 60) {e : xW} (hi : y_in s NL N q0 v0 e) (hm : y_mu s NL e ≤ 50000) (h : e.1 < NL) : y_fin s NL (y_one s NL e) = y_fin s NL e := by
  obtain ⟨k, R, v, ch, st, mi, mo, bo, le⟩ := e
  have := y_in_one hS hN (show k < NL from h) hi
  unfold y_fin
  rw [y_it_st hS hN 49999 50000 _ this.1 (by omega) (by omega), show (50000 : Nat) = 49999 + 1 from rfl, y_it_S h]
theorem y_fin_0 {s : xR} {NL : Nat} {e : xW} (h : ¬ e.1 < NL) : y_fin s NL e = e := y_it_0 h _
