/-! what the answers leave of the land: its bounds and how many there are -/
def z_kp (N : Nat) (v v' : xV) : Prop := v_Bn (N + 2 ^ 34) v' ∧ ∀ c, c ≤ 2 → v' c 0 0 = v c 0 0
def z_ok (N : Nat) (v : xV) (S : xS) : Prop := (∃ w : Int32, S.1 = .int w) ∧ z_kp N v S.2.2
section Cb8
variable {N : Nat} {v : xV} {x y z w : Int32} {e : Int32} {ok : Bool}
theorem z_kp_0 (h : v_Bn N v) : z_kp N v v := ⟨v_Bn_mono h (by omega), fun _ _ => rfl⟩
theorem z_ixc {K : Nat} (h : x_ixb x K = true) : x_c x < K := by
  simp only [x_ixb, Bool.and_eq_true, decide_eq_true_eq] at h
  show x.toInt.toNat < K
  omega
theorem z_wic {lo hi : Int32} (h : x_wi x lo hi = true) (h0 : 0 ≤ lo.toInt) : lo.toInt ≤ (x_c x : Nat) ∧ ((x_c x : Nat) : Int) ≤ hi.toInt := by
  simp only [x_wi, Bool.and_eq_true, decide_eq_true_eq] at h
  have e : ((x_c x : Nat) : Int) = x.toInt := Int.toNat_of_nonneg (by omega)
  rw [e]
  exact h
theorem z_w999 (h : x_wi x 1 999 = true) : 1 ≤ x_c x ∧ x_c x ≤ 999 := by
  have := z_wic h (by decide)
  have e1 : (1 : Int32).toInt = 1 := rfl
  have e2 : (999 : Int32).toInt = 999 := rfl
  omega
theorem z_sq_ok {o : Option (Int32 × xV)} (h : v_Bn N v) (ho : ok = true → ∀ S, o = some S → z_kp N v S.2) : z_ok N v (x_sq e ok o v) := by
  cases ok with
  | false => exact ⟨⟨_, rfl⟩, z_kp_0 h⟩
  | true =>
    cases o with
    | none => exact ⟨⟨_, rfl⟩, z_kp_0 h⟩
    | some S => exact ⟨⟨_, rfl⟩, ho rfl S rfl⟩
theorem z_sr_ok (h : v_Bn N v) : z_ok N v (x_sr ok w v) := z_sq_ok h (fun _ S hS => by cases hS; exact z_kp_0 h)
theorem z_sb_ok {o : Option xV} (h : v_Bn N v) (ho : ok = true → ∀ S, o = some S → z_kp N v S) : z_ok N v (x_sb e ok o v) := by
  cases ok with
  | false => exact ⟨⟨_, rfl⟩, z_kp_0 h⟩
  | true =>
    cases o with
    | none => exact ⟨⟨_, rfl⟩, z_kp_0 h⟩
    | some S => exact ⟨⟨_, rfl⟩, ho rfl S rfl⟩
theorem z_till {l : Nat} : ∀ m i S, v_till v l m i = some S → S.2 = v
  | 0, _, _, h => by cases h
  | m + 1, i, S, h => by
    unfold v_till at h
    split at h
    · cases h; rfl
    · exact z_till m (i + 1) S h
theorem z_fnot {p : Nat} : ∀ m i S, v_fnot v p m i = some S → S.2 = v
  | 0, _, _, h => by cases h
  | m + 1, i, S, h => by
    unfold v_fnot at h
    split at h
    · exact z_fnot m (i + 1) S h
    · cases h; rfl
theorem z_look {n q : Nat} : ∀ m i S, y_look v n q m i = some S → S.2 = v
  | 0, _, _, h => by cases h
  | m + 1, i, S, h => by
    unfold y_look at h
    split at h
    · cases h; rfl
    · exact z_look m (i + 1) S h
theorem z_move {t p q : Nat} {S : Int32 × xV} (h : s_move v t p q = some S) : S.2 = v := by
  unfold s_move at h
  split at h
  · cases h
  · split at h
    · cases h
    · cases h; rfl
theorem z_same {S : Int32 × xV} (h : v_Bn N v) (hS : S.2 = v) : z_kp N v S.2 := by rw [hS]; exact z_kp_0 h
theorem z_if {b : Prop} [Decidable b] {S : Int32 × xV} {w : Int32} (h : (if b then some (w, v) else none) = some S) : S.2 = v := by
  split at h
  · cases h; rfl
  · cases h
theorem z_pay (h : v_Bn N v) : z_ok N v (sp_pay v x y z) := z_sq_ok h (fun hk S hS => by
  simp only [Bool.and_eq_true] at hk
  obtain ⟨⟨h1, h2⟩, h3⟩ := hk
  unfold s_pay at hS
  split at hS
  · cases hS
  · rename_i hc
    cases hS
    refine ⟨v_Bn_mono (v_Bn_pay h (z_ixc h1) (z_ixc h2) (z_w999 h3).2 (by omega)) (by omega), fun c hc => ?_⟩
    show d_pay v _ _ _ c 0 0 = _
    unfold d_pay
    rw [v_set_c (by omega), v_set_c (by omega)])
theorem z_tear (h : v_Bn N v) : z_ok N v (sp_tear v x y z) := z_sq_ok h (fun hk S hS => by
  simp only [Bool.and_eq_true] at hk
  obtain ⟨⟨h1, h2⟩, h3⟩ := hk
  unfold s_tear at hS
  split at hS
  · cases hS
  · rename_i hc
    cases hS
    refine ⟨v_Bn_mono (v_Bn_tear h (z_ixc h1) (z_ixc h2) (by omega)) (by omega), fun c hc => ?_⟩
    show d_tear v _ _ _ c 0 0 = _
    unfold d_tear
    rw [v_set_c (by omega), v_set_c (by omega)])
theorem z_mend (h : v_Bn N v) : z_ok N v (sp_mend v x y z) := z_sq_ok h (fun hk S hS => by
  simp only [Bool.and_eq_true] at hk
  obtain ⟨⟨h1, h2⟩, h3⟩ := hk
  unfold s_mend at hS
  split at hS
  · cases hS
  · rename_i hc
    cases hS
    refine ⟨v_Bn_mono (v_Bn_mend h (z_ixc h1) (z_ixc h2) (z_w999 h3).2) (by omega), fun c hc => ?_⟩
    show d_mend v _ _ _ c 0 0 = _
    unfold d_mend
    rw [v_set_c (by omega), v_set_c (by omega), v_set_c (by omega)])
theorem z_burn (h : v_Bn N v) : z_ok N v (sp_burn v x y z) := z_sq_ok h (fun hk S hS => by
  simp only [Bool.and_eq_true] at hk
  obtain ⟨⟨h1, h2⟩, h3⟩ := hk
  unfold s_burn at hS
  split at hS
  · cases hS
  · rename_i hc
    cases hS
    have q1 := z_ixc h1
    have q2 := z_ixc h2
    have q3 := (z_w999 h3).2
    have b13 : v 13 (x_c x) (x_c y) ≤ 9999 := (h.1 13 _ _ (v_ok_13 q1 q2)).2
    have h9 := v_Bn_9 h q2
    have e : x_c z * v 9 (x_c y) 0 ≤ 999 * 500 := Nat.mul_le_mul q3 h9
    have hx := h.2.2.2
    have g1 := v_Bn_set h (v_ok_13 q1 q2) (x := v 13 (x_c x) (x_c y) - x_c z) (by decide) (by decide) (by decide) (Nat.zero_le _) (show v 13 (x_c x) (x_c y) - x_c z ≤ 9999 by omega)
    refine ⟨v_Bn_17 g1 (M := N + 2 ^ 34) (by omega) (by omega), fun c hc => ?_⟩
    show d_burn v _ _ _ c 0 0 = _
    unfold d_burn
    rw [v_set_c (by omega), v_set_c (by omega)])
theorem z_cross (h : v_Bn N v) : z_ok N v (sp_cross v x y z) := z_sq_ok h (fun hk S hS => by
  simp only [Bool.and_eq_true] at hk
  obtain ⟨⟨h1, h2⟩, h3⟩ := hk
  unfold s_cross at hS
  split at hS
  · cases hS
  · rename_i hc
    cases hS
    have q1 := z_ixc h1
    have q2 := z_ixc h2
    have b13 : v 13 (x_c x) (x_c y) ≤ 9999 := (h.1 13 _ _ (v_ok_13 q1 q2)).2
    have g1 := v_Bn_set h (v_ok_13 q1 q2) (x := v 13 (x_c x) (x_c y) - x_c z) (by decide) (by decide) (by decide) (Nat.zero_le _) (show v 13 (x_c x) (x_c y) - x_c z ≤ 9999 by omega)
    have g2 := v_Bn_set g1 (c := 12) (i := x_c x) (j := 0) ((v_ok_set (by decide)).mpr (show x_c x < v 2 0 0 ∧ 0 = 0 from ⟨q1, rfl⟩)) (x := v 12 (x_c x) 0 + d_got v (x_c y) (x_c z)) (by decide) (by decide) (by decide) (Nat.zero_le _) (show v 12 (x_c x) 0 + d_got v (x_c y) (x_c z) ≤ 99999 by omega)
    refine ⟨v_Bn_mono g2 (by omega), fun c hc => ?_⟩
    show d_cross v _ _ _ c 0 0 = _
    unfold d_cross
    rw [v_set_c (by omega), v_set_c (by omega)])
theorem z_give (h : v_Bn N v) : z_ok N v (sp_give v x y z w) := z_sb_ok h (fun hk S hS => by
  simp only [Bool.and_eq_true] at hk
  obtain ⟨⟨h1, h2⟩, h3, h4⟩ := hk
  split at hS
  · cases hS
  · rename_i hc
    cases hS
    have q1 := z_ixc h1
    have q2 := z_ixc h2
    have q3 := z_ixc h3
    have b13 : v 13 (x_c x) (x_c z) ≤ 9999 := (h.1 13 _ _ (v_ok_13 q1 q2)).2
    have g1 := v_Bn_set h (v_ok_13 q1 q2) (x := v 13 (x_c x) (x_c z) - x_c w) (by decide) (by decide) (by decide) (Nat.zero_le _) (show v 13 (x_c x) (x_c z) - x_c w ≤ 9999 by omega)
    have g2 := v_Bn_set g1 ((v_ok_set (by decide)).mpr (v_ok_13 q3 q2)) (x := v 13 (x_c y) (x_c z) + x_c w) (by decide) (by decide) (by decide) (Nat.zero_le _) (show v 13 (x_c y) (x_c z) + x_c w ≤ 9999 by omega)
    refine ⟨v_Bn_mono g2 (by omega), fun c hc => ?_⟩
    show d_give v _ _ _ _ c 0 0 = _
    unfold d_give
    rw [v_set_c (by omega), v_set_c (by omega)])
theorem z_buy (h : v_Bn N v) : z_ok N v (sp_buy v x y z) := z_sq_ok h (fun hk S hS => by
  simp only [Bool.and_eq_true] at hk
  obtain ⟨⟨h1, h2⟩, h3⟩ := hk
  unfold s_buy at hS
  split at hS
  · rename_i hc
    cases hS
    refine ⟨v_Bn_mono (v_Bn_buy h (z_ixc h1) (z_ixc h2) hc) (by omega), fun c hc => ?_⟩
    show d_tb _ _ _ _ _ c 0 0 = _
    rw [d_tb_c (by omega) (by omega) (by omega), v_set_c (by omega)]
  · cases hS)
theorem z_sell (h : v_Bn N v) : z_ok N v (sp_sell v x y z) := z_sq_ok h (fun hk S hS => by
  simp only [Bool.and_eq_true] at hk
  obtain ⟨⟨h1, h2⟩, h3⟩ := hk
  unfold s_sell at hS
  split at hS
  · rename_i hc
    cases hS
    refine ⟨v_Bn_mono (v_Bn_sell h (z_ixc h1) (z_ixc h2) hc) (by omega), fun c hc => ?_⟩
    show d_ts _ _ _ _ _ c 0 0 = _
    rw [d_ts_c (by omega) (by omega) (by omega), v_set_c (by omega)]
  · cases hS)
theorem z_renew (h : v_Bn N v) (hN : N < 2 ^ 60) : z_ok N v (sp_renew v x) := z_sq_ok h (fun hk S hS => by
  unfold s_renew at hS
  split at hS
  · rename_i hc
    cases hS
    have hP : v 2 0 0 ≤ 5 := v_B_P (v_Bn_B h hN)
    refine ⟨v_Bn_mono (v_Bn_renew h hc (v 2 0 0) (Nat.le_refl _)) (by omega), fun c hc => ?_⟩
    show d_renew v _ _ c 0 0 = _
    rw [d_renew_c (by omega) (by omega) (by omega) (by omega)]
  · cases hS)
theorem z_month (h : v_Bn N v) (hN : N + 2 ^ 33 < 2 ^ 60) : z_ok N v (sp_month v x) := z_sq_ok h (fun hk S hS => by
  have q := z_wic hk (by decide)
  have e2 : (99 : Int32).toInt = 99 := rfl
  unfold s_mon at hS
  split at hS
  · cases hS
  · rename_i hc
    cases hS
    refine ⟨v_Bn_mono (v_Bn_mon h (by omega) (by omega) (by omega)) (by omega), fun c hc => ?_⟩
    show d_mon v _ c 0 0 = _
    unfold d_mon d_mon1
    rw [v_set_c (by omega), v_set_c (by omega), v_set_c (by omega), v_set_c (by omega)])
theorem z_bring (h : v_Bn N v) : z_ok N v (sp_bring v x y) := z_sq_ok h (fun hk S hS => by
  simp only [Bool.and_eq_true] at hk
  obtain ⟨h1, h3⟩ := hk
  unfold s_bring at hS
  split at hS
  · cases hS
  · rename_i hc
    cases hS
    have g1 := v_Bn_set h (c := 11) (i := x_c x) (j := 0) (show x_c x < v 1 0 0 ∧ 0 = 0 from ⟨z_ixc h1, rfl⟩) (x := v 11 (x_c x) 0 + x_c y) (by decide) (by decide) (by decide) (Nat.zero_le _) (show v 11 (x_c x) 0 + x_c y ≤ 9999 by omega)
    exact ⟨v_Bn_mono g1 (by omega), fun c hc => v_set_c (by omega)⟩)
theorem z_rule (h : v_Bn N v) : z_ok N v (sp_rule v x y) := z_sb_ok h (fun hk S hS => by
  simp only [Bool.and_eq_true] at hk
  obtain ⟨h1, h2⟩ := hk
  cases hS
  obtain ⟨i, hi⟩ : ∃ i, x_c x = i := ⟨_, rfl⟩
  have q := z_wic h1 (by decide)
  have e2 : (2 : Int32).toInt = 2 := rfl
  rw [hi] at h2 q ⊢
  have hi3 : i = 0 ∨ i = 1 ∨ i = 2 := by omega
  rcases hi3 with rfl | rfl | rfl
  · have q2 := z_wic (lo := nI 10) (hi := nI 9999) h2 (by decide)
    have e3 : (nI 10).toInt = 10 := by decide
    have e4 : (nI 9999).toInt = 9999 := by decide
    exact ⟨v_Bn_mono (v_Bn_set h (c := 3) (i := 0) (j := 0) ⟨rfl, rfl⟩ (x := x_c y) (by decide) (by decide) (by decide) (show 10 ≤ x_c y by omega) (show x_c y ≤ 9999 by omega)) (by omega), fun c hc => v_set_c (by omega)⟩
  · have q2 := z_wic (lo := nI 0) (hi := nI 50) h2 (by decide)
    have e4 : (nI 50).toInt = 50 := by decide
    exact ⟨v_Bn_mono (v_Bn_set h (c := 4) (i := 0) (j := 0) ⟨rfl, rfl⟩ (x := x_c y) (by decide) (by decide) (by decide) (Nat.zero_le _) (show x_c y ≤ 50 by omega)) (by omega), fun c hc => v_set_c (by omega)⟩
  · have q2 := z_wic (lo := nI 0) (hi := nI 999) h2 (by decide)
    have e4 : (nI 999).toInt = 999 := by decide
    exact ⟨v_Bn_mono (v_Bn_set h (c := 5) (i := 0) (j := 0) ⟨rfl, rfl⟩ (x := x_c y) (by decide) (by decide) (by decide) (Nat.zero_le _) (show x_c y ≤ 999 by omega)) (by omega), fun c hc => v_set_c (by omega)⟩)
end Cb8
