section C20
variable {f : Nat → Nat → Int32} {g : Nat → Nat → Int64} {r t : Nat} {dm : List Nat} {n d : Nat} {v : xV} {h : xH}
theorem c_mendTorn_12 {p k m : Nat} (hC : v_C f g 12 v) (hB : v_B v) (hp : p < v 2 0 0) (hk : k < v 0 0 0) (hm : m ≤ 999) : x_Ct 26 (d + 1) [.ref 12, .int (nI p), .int (nI k), .int (nI m)] (f, g, x_HR r t, dm, n) (if v 14 p k < m then (fun q h' => q = some (.int (-1)) ∧ h' = (f, g, x_HR r t, dm, n)) else x_PL f g 12 (x_HR r t) dm n (.int (nI (d_back v p k m))) (d_mend v p k m)) := by
  have bK := v_B_K hB
  have bP := v_B_P hB
  have bG := v_B_G hB
  have o13 : v_ok v 13 p k := show p < v 2 0 0 ∧ k < v 0 0 0 from ⟨hp, hk⟩
  have o14 : v_ok v 14 p k := show p < v 2 0 0 ∧ k < v 0 0 0 from ⟨hp, hk⟩
  have o9 : v_ok v 9 k 0 := show k < v 0 0 0 ∧ 0 = 0 from ⟨hk, rfl⟩
  have h13 : f 19 (4 * p + k) = nI (v 13 p k) := hC.1 13 p k o13
  have h14 : f 20 (4 * p + k) = nI (v 14 p k) := hC.1 14 p k o14
  have h9 : f 15 k = nI (v 9 k 0) := hC.1 9 k 0 o9
  have b13 : v 13 p k ≤ 9999 := (hB.1 13 p k o13).2
  have b14 : v 14 p k ≤ 9999 := (hB.1 14 p k o14).2
  have b9 : v 9 k 0 ≤ 500 := (hB.1 9 k 0 o9).2
  have bk := d_kept_le v hB hm
  have hback : (if nI 9999 - f 19 (4 * p + k) < nI m - nI (d_kept v m) then nI 9999 - f 19 (4 * p + k) else nI m - nI (d_kept v m)) = nI (d_back v p k m) := by
    rw [h13, pk_sub (by omega), pk_sub (by omega), x_min_nI (by omega) (by omega)]
    rfl
  have bb : d_back v p k m ≤ m := Nat.le_trans (Nat.min_le_left _ _) (Nat.sub_le _ _)
  refine x_Ct_w (by decide) (Nat.le_of_ble_eq_true rfl) ok26 [] 6 ?_
  refine Exists.intro _ (And.intro c_purse (And.intro (And.intro (Nat.zero_le _) (Nat.zero_le _)) (fun q h' hp => ?_)))
  obtain ⟨rfl, rfl⟩ := hp
  rw [x_pl4]
  refine And.intro (x_ix_nI (by omega) (by omega)) ?_
  rw [nI_clamp (by omega)]
  refine And.intro (fun c => ?_) (fun c => ?_)
  · have c : nI m ≤ f 20 (4 * p + k) := c
    rw [h14, nI_leI (by omega) (by omega)] at c
    rw [if_neg (by omega)]
    refine Exists.intro _ (And.intro (c_keptFrom_12 hC hB (by omega)) (And.intro (And.intro (Nat.zero_le _) (Nat.zero_le _)) (fun q h' hp => ?_)))
    obtain ⟨rfl, rfl⟩ := hp
    refine And.intro (x_ix_nI (by omega) (by omega)) ?_
    rw [nI_clamp (by omega)]
    refine And.intro (x_ix_nI (by omega) (by omega)) ?_
    rw [nI_clamp (by omega)]
    refine And.intro (x_ix_nI (by omega) (by omega)) ?_
    rw [nI_clamp (by omega)]
    refine And.intro (x_ix_nI (by omega) (by omega)) ?_
    rw [nI_clamp (by omega)]
    refine And.intro (x_ix_nI (by omega) (by omega)) ?_
    rw [nI_clamp (by omega)]
    refine And.intro (x_ix_nI (by omega) (by omega)) ?_
    rw [nI_clamp (by omega)]
    refine And.intro ?_ ⟨trivial, Nat.le_refl _, Nat.le_refl _⟩
    refine ⟨_, _, rfl, ?_, ?_, rfl, fun k2 hk2 _ => ⟨?_, ?_⟩⟩
    · show some (Value.int (if nI 9999 - f 19 (4 * p + k) < nI m - nI (d_kept v m) then nI 9999 - f 19 (4 * p + k) else nI m - nI (d_kept v m))) = _
      rw [hback]
    · show v_C (x_up (x_up f 20 (4 * p + k) (f 20 (4 * p + k) - nI m)) 19 (4 * p + k) (f 19 (4 * p + k) + (if nI 9999 - f 19 (4 * p + k) < nI m - nI (d_kept v m) then nI 9999 - f 19 (4 * p + k) else nI m - nI (d_kept v m)))) (x_up g 12 7 (g 12 7 + (nI m - (if nI 9999 - f 19 (4 * p + k) < nI m - nI (d_kept v m) then nI 9999 - f 19 (4 * p + k) else nI m - nI (d_kept v m))).toInt64 * (f 15 k).toInt64)) 12 _
      rw [hback, h14, h9, hC.2.2, h13, pk_sub c, pk_sub bb, nI_add, nI_l (by omega), nI_l (by omega), lN_mul, lN_add]
      exact v_C_17 (v_C_set (v_C_set hC bK bG o14 (x := v 14 p k - m) (by decide)) bK bG (c := 13) (i := p) (j := k) (x := v 13 p k + d_back v p k m) ((v_ok_set (by decide)).mpr o13) (by decide)) _
    · show x_up (x_up f 20 _ _) 19 _ _ k2 = f k2
      rw [x_up_k (by omega), x_up_k (by omega)]
    · show x_up g 12 _ _ k2 = g k2
      rw [x_up_k (by omega)]
  · have c : ¬ nI m ≤ f 20 (4 * p + k) := c
    rw [h14, nI_leI (by omega) (by omega)] at c
    rw [if_pos (by omega)]
    exact And.intro ⟨rfl, rfl⟩ ⟨trivial, Nat.le_refl _, Nat.le_refl _⟩
theorem c_handOver_12 {p p2 k m : Nat} (hC : v_C f g 12 v) (hB : v_B v) (hp : p < v 2 0 0) (hp2 : p2 < v 2 0 0) (hne : p ≠ p2) (hk : k < v 0 0 0) (hm : m ≤ 999) : x_Ct 27 (d + 1) [.ref 12, .int (nI p), .int (nI p2), .int (nI k), .int (nI m)] (f, g, x_HR r t, dm, n) (if v 13 p k < m ∨ 9999 < v 13 p2 k + m then (fun q h' => q = some (.int 0) ∧ h' = (f, g, x_HR r t, dm, n)) else x_PL f g 12 (x_HR r t) dm n (.int 1) (d_give v p p2 k m)) := by
  have bK := v_B_K hB
  have bP := v_B_P hB
  have bG := v_B_G hB
  have o13 : v_ok v 13 p k := show p < v 2 0 0 ∧ k < v 0 0 0 from ⟨hp, hk⟩
  have o23 : v_ok v 13 p2 k := show p2 < v 2 0 0 ∧ k < v 0 0 0 from ⟨hp2, hk⟩
  have h13 : f 19 (4 * p + k) = nI (v 13 p k) := hC.1 13 p k o13
  have h23 : f 19 (4 * p2 + k) = nI (v 13 p2 k) := hC.1 13 p2 k o23
  have b13 : v 13 p k ≤ 9999 := (hB.1 13 p k o13).2
  have b23 : v 13 p2 k ≤ 9999 := (hB.1 13 p2 k o23).2
  refine x_Ct_w (by decide) (Nat.le_of_ble_eq_true rfl) ok27 [] 6 ?_
  refine Exists.intro _ (And.intro c_purse (And.intro (And.intro (Nat.zero_le _) (Nat.zero_le _)) (fun q h' hp => ?_)))
  obtain ⟨rfl, rfl⟩ := hp
  rw [x_pl4]
  refine Exists.intro _ (And.intro c_purse (And.intro (And.intro (Nat.zero_le _) (Nat.zero_le _)) (fun q h' hp => ?_)))
  obtain ⟨rfl, rfl⟩ := hp
  rw [x_pl4]
  refine And.intro (x_ix_nI (by omega) (by omega)) ?_
  rw [nI_clamp (by omega)]
  refine And.intro (fun c => ?_) (fun c => ?_)
  · have c : f 19 (4 * p + k) < nI m := c
    rw [h13, nI_ltI (by omega) (by omega)] at c
    rw [if_pos (Or.inl c)]
    exact And.intro ⟨rfl, rfl⟩ ⟨Or.inl rfl, Nat.le_refl _, Nat.le_refl _⟩
  · have c : ¬ f 19 (4 * p + k) < nI m := c
    rw [h13, nI_ltI (by omega) (by omega)] at c
    refine And.intro (x_ix_nI (by omega) (by omega)) ?_
    rw [nI_clamp (by omega)]
    refine And.intro (fun c2 => ?_) (fun c2 => ?_)
    · have c2 : f 19 (4 * p2 + k) + nI m ≤ nI 9999 := c2
      rw [h23, nI_add, nI_leI (by omega) (by omega)] at c2
      rw [if_neg (by omega)]
      refine And.intro (x_ix_nI (by omega) (by omega)) ?_
      rw [nI_clamp (by omega)]
      refine And.intro (x_ix_nI (by omega) (by omega)) ?_
      rw [nI_clamp (by omega)]
      refine And.intro (x_ix_nI (by omega) (by omega)) ?_
      rw [nI_clamp (by omega)]
      refine And.intro (x_ix_nI (by omega) (by omega)) ?_
      rw [nI_clamp (by omega)]
      refine And.intro ?_ ⟨Or.inr rfl, Nat.le_refl _, Nat.le_refl _⟩
      refine ⟨_, _, rfl, rfl, ?_, rfl, fun k2 hk2 _ => ⟨?_, rfl⟩⟩
      · show v_C (x_up (x_up f 19 (4 * p + k) (f 19 (4 * p + k) - nI m)) 19 (4 * p2 + k) (x_up f 19 (4 * p + k) (f 19 (4 * p + k) - nI m) 19 (4 * p2 + k) + nI m)) g 12 _
        rw [x_up_j (show 4 * p2 + k ≠ 4 * p + k by omega), h13, h23, pk_sub (by omega), nI_add]
        exact v_C_set (v_C_set hC bK bG o13 (x := v 13 p k - m) (by decide)) bK bG (c := 13) (i := p2) (j := k) (x := v 13 p2 k + m) ((v_ok_set (by decide)).mpr o23) (by decide)
      · show x_up (x_up f 19 _ _) 19 _ _ k2 = f k2
        rw [x_up_k (by omega), x_up_k (by omega)]
    · have c2 : ¬ f 19 (4 * p2 + k) + nI m ≤ nI 9999 := c2
      rw [h23, nI_add, nI_leI (by omega) (by omega)] at c2
      rw [if_pos (by omega)]
      exact And.intro ⟨rfl, rfl⟩ ⟨Or.inl rfl, Nat.le_refl _, Nat.le_refl _⟩
theorem c_carryOut_12 {p k m : Nat} (hC : v_C f g 12 v) (hB : v_B v) (hp : p < v 2 0 0) (hk : k < v 0 0 0) (hm : m ≤ 999) : x_Ct 29 (d + 1) [.ref 12, .int (nI p), .int (nI k), .int (nI m)] (f, g, x_HR r t, dm, n) (if v 13 p k < m ∨ 99999 < v 12 p 0 + d_got v k m then (fun q h' => q = some (.int (-1)) ∧ h' = (f, g, x_HR r t, dm, n)) else x_PL f g 12 (x_HR r t) dm n (.int (nI (d_got v k m))) (d_cross v p k m)) := by
  have bK := v_B_K hB
  have bP := v_B_P hB
  have bG := v_B_G hB
  have o13 : v_ok v 13 p k := show p < v 2 0 0 ∧ k < v 0 0 0 from ⟨hp, hk⟩
  have o14 : v_ok v 14 p k := show p < v 2 0 0 ∧ k < v 0 0 0 from ⟨hp, hk⟩
  have o9 : v_ok v 9 k 0 := show k < v 0 0 0 ∧ 0 = 0 from ⟨hk, rfl⟩
  have h13 : f 19 (4 * p + k) = nI (v 13 p k) := hC.1 13 p k o13
  have h14 : f 20 (4 * p + k) = nI (v 14 p k) := hC.1 14 p k o14
  have h9 : f 15 k = nI (v 9 k 0) := hC.1 9 k 0 o9
  have b13 : v 13 p k ≤ 9999 := (hB.1 13 p k o13).2
  have b14 : v 14 p k ≤ 9999 := (hB.1 14 p k o14).2
  have b9 : v 9 k 0 ≤ 500 := (hB.1 9 k 0 o9).2
  have o12 : v_ok v 12 p 0 := show p < v 2 0 0 ∧ 0 = 0 from ⟨hp, rfl⟩
  have h12 : f 18 p = nI (v 12 p 0) := hC.1 12 p 0 o12
  have b12 : v 12 p 0 ≤ 99999 := (hB.1 12 p 0 o12).2
  have h7 : f 12 4 = nI (v 7 0 0) := hC.1 7 0 0 ⟨rfl, rfl⟩
  have b7 : v 7 0 0 ≤ 21000000 := (hB.1 7 0 0 ⟨rfl, rfl⟩).2
  have b7a : 1 ≤ v 7 0 0 := (hB.1 7 0 0 ⟨rfl, rfl⟩).1
  have bm : m * v 9 k 0 ≤ 999 * 500 := Nat.mul_le_mul hm b9
  have bg : d_got v k m ≤ 999 * 500 := Nat.le_trans (Nat.div_le_self _ _) bm
  have hgot : nI m * f 15 k / (if (1 : Int32) < f 12 4 then f 12 4 else 1) = nI (d_got v k m) := by
    rw [h9, h7, x_max1_nI (by omega) b7a, pk_mul, pk_div (by omega) (by omega) (by omega)]
    rfl
  refine x_Ct_w (by decide) (Nat.le_of_ble_eq_true rfl) ok29 [] 6 ?_
  refine Exists.intro _ (And.intro c_purse (And.intro (And.intro (Nat.zero_le _) (Nat.zero_le _)) (fun q h' hp => ?_)))
  obtain ⟨rfl, rfl⟩ := hp
  rw [x_pl4]
  refine And.intro (x_ix_nI (by omega) (by omega)) ?_
  rw [nI_clamp (by omega)]
  refine And.intro (by show ¬ (if (1 : Int32) < f 12 4 then f 12 4 else 1) = 0; rw [h7, x_max1_nI (by omega) b7a]; exact x_ne0 (by omega) b7a) ?_
  refine And.intro (x_ix_nI (by omega) (by omega)) ?_
  rw [nI_clamp (by omega)]
  refine And.intro (fun c => ?_) (fun c => ?_)
  · have c : f 19 (4 * p + k) < nI m := c
    rw [h13, nI_ltI (by omega) (by omega)] at c
    rw [if_pos (Or.inl c)]
    exact And.intro ⟨rfl, rfl⟩ ⟨trivial, Nat.le_refl _, Nat.le_refl _⟩
  · have c : ¬ f 19 (4 * p + k) < nI m := c
    rw [h13, nI_ltI (by omega) (by omega)] at c
    refine And.intro (x_ix_nI (by omega) (by omega)) ?_
    rw [nI_clamp (by omega)]
    refine And.intro (fun c2 => ?_) (fun c2 => ?_)
    · have c2 : f 18 p + nI m * f 15 k / (if (1 : Int32) < f 12 4 then f 12 4 else 1) ≤ nI 99999 := c2
      rw [h12, hgot, nI_add, nI_leI (by omega) (by omega)] at c2
      rw [if_neg (by omega)]
      refine And.intro (x_ix_nI (by omega) (by omega)) ?_
      rw [nI_clamp (by omega)]
      refine And.intro (x_ix_nI (by omega) (by omega)) ?_
      rw [nI_clamp (by omega)]
      refine And.intro (x_ix_nI (by omega) (by omega)) ?_
      rw [nI_clamp (by omega)]
      refine And.intro (x_ix_nI (by omega) (by omega)) ?_
      rw [nI_clamp (by omega)]
      refine And.intro ?_ ⟨trivial, Nat.le_refl _, Nat.le_refl _⟩
      refine ⟨_, _, rfl, ?_, ?_, rfl, fun k2 hk2 _ => ⟨?_, rfl⟩⟩
      · show some (Value.int (nI m * f 15 k / (if (1 : Int32) < f 12 4 then f 12 4 else 1))) = _
        rw [hgot]
      · show v_C (x_up (x_up f 19 (4 * p + k) (f 19 (4 * p + k) - nI m)) 18 p (f 18 p + nI m * f 15 k / (if (1 : Int32) < f 12 4 then f 12 4 else 1))) g 12 _
        rw [hgot, h13, h12, pk_sub (by omega), nI_add]
        exact v_C_set (v_C_set hC bK bG o13 (x := v 13 p k - m) (by decide)) bK bG (c := 12) (i := p) (j := 0) (x := v 12 p 0 + d_got v k m) ((v_ok_set (by decide)).mpr o12) (by decide)
      · show x_up (x_up f 19 _ _) 18 _ _ k2 = f k2
        rw [x_up_k (by omega), x_up_k (by omega)]
    · have c2 : ¬ f 18 p + nI m * f 15 k / (if (1 : Int32) < f 12 4 then f 12 4 else 1) ≤ nI 99999 := c2
      rw [h12, hgot, nI_add, nI_leI (by omega) (by omega)] at c2
      rw [if_pos (by omega)]
      exact And.intro ⟨rfl, rfl⟩ ⟨trivial, Nat.le_refl _, Nat.le_refl _⟩
theorem c_renewedFor_12 {p k : Nat} (hC : v_C f g 12 v) (hB : v_B v) (hp : p < v 2 0 0) (hk : k + 1 < v 0 0 0) : x_V 30 (d + 1) [.ref 12, .int (nI p), .int (nI k)] (f, g, x_HR r t, dm, n) (.int (nI (d_ren v p k))) (f, g, x_HR r t, dm, n) := by
  have bK := v_B_K hB
  have bP := v_B_P hB
  have o13 : v_ok v 13 p k := show p < v 2 0 0 ∧ k < v 0 0 0 from ⟨hp, by omega⟩
  have o14 : v_ok v 14 p k := show p < v 2 0 0 ∧ k < v 0 0 0 from ⟨hp, by omega⟩
  have o23 : v_ok v 13 p (k + 1) := show p < v 2 0 0 ∧ k + 1 < v 0 0 0 from ⟨hp, hk⟩
  have h13 : f 19 (4 * p + k) = nI (v 13 p k) := hC.1 13 p k o13
  have h14 : f 20 (4 * p + k) = nI (v 14 p k) := hC.1 14 p k o14
  have h23 : f 19 (4 * p + (k + 1)) = nI (v 13 p (k + 1)) := hC.1 13 p (k + 1) o23
  have b13 : v 13 p k ≤ 9999 := (hB.1 13 p k o13).2
  have b14 : v 14 p k ≤ 9999 := (hB.1 14 p k o14).2
  have b23 : v 13 p (k + 1) ≤ 9999 := (hB.1 13 p (k + 1) o23).2
  refine x_Ct_w (by decide) (Nat.le_of_ble_eq_true rfl) ok30 [] 6 ?_
  refine Exists.intro _ (And.intro c_purse (And.intro (And.intro (Nat.zero_le _) (Nat.zero_le _)) (fun q h' hp => ?_)))
  obtain ⟨rfl, rfl⟩ := hp
  rw [x_pl4]
  refine And.intro (x_ix_nI (by omega) (by omega)) ?_
  rw [nI_clamp (by omega)]
  refine Exists.intro _ (And.intro c_purse (And.intro (And.intro (Nat.zero_le _) (Nat.zero_le _)) (fun q h' hp => ?_)))
  obtain ⟨rfl, rfl⟩ := hp
  rw [x_pl4]
  refine And.intro (x_ix_nI (by omega) (by omega)) ?_
  rw [nI_clamp (by omega)]
  refine And.intro (by decide) ?_
  refine Exists.intro _ (And.intro c_purse (And.intro (And.intro (Nat.zero_le _) (Nat.zero_le _)) (fun q h' hp => ?_)))
  obtain ⟨rfl, rfl⟩ := hp
  rw [show nI k + Int32.ofInt 1 = nI (k + 1) from nI_1 k, x_pl4]
  refine And.intro (x_ix_nI (by omega) (by omega)) ?_
  rw [nI_clamp (by omega)]
  exact And.intro ⟨(by show some (Value.int (if nI 9999 - f 19 (4 * p + (k + 1)) < (f 19 (4 * p + k) + f 20 (4 * p + k)) / nI 5 then nI 9999 - f 19 (4 * p + (k + 1)) else (f 19 (4 * p + k) + f 20 (4 * p + k)) / nI 5)) = _; rw [h13, h14, h23, nI_add, pk_div (by omega) (by decide) (by decide), pk_sub (by omega), x_min_nI (by omega) (by omega)]; rfl), rfl⟩ ⟨trivial, Nat.le_refl _, Nat.le_refl _⟩
theorem c_lossOf_12 {p k : Nat} (hC : v_C f g 12 v) (hB : v_B v) (hp : p < v 2 0 0) (hk : k + 1 < v 0 0 0) : x_V 31 (d + 2) [.ref 12, .int (nI p), .int (nI k)] (f, g, x_HR r t, dm, n) (.int (nI ((v 13 p k + v 14 p k) * v 9 k 0) - nI (d_ren v p k * v 9 (k + 1) 0))) (f, g, x_HR r t, dm, n) := by
  have bK := v_B_K hB
  have bP := v_B_P hB
  have o13 : v_ok v 13 p k := show p < v 2 0 0 ∧ k < v 0 0 0 from ⟨hp, by omega⟩
  have o14 : v_ok v 14 p k := show p < v 2 0 0 ∧ k < v 0 0 0 from ⟨hp, by omega⟩
  have o9 : v_ok v 9 k 0 := show k < v 0 0 0 ∧ 0 = 0 from ⟨by omega, rfl⟩
  have o92 : v_ok v 9 (k + 1) 0 := show k + 1 < v 0 0 0 ∧ 0 = 0 from ⟨hk, rfl⟩
  have h13 : f 19 (4 * p + k) = nI (v 13 p k) := hC.1 13 p k o13
  have h14 : f 20 (4 * p + k) = nI (v 14 p k) := hC.1 14 p k o14
  have h9 : f 15 k = nI (v 9 k 0) := hC.1 9 k 0 o9
  have h92 : f 15 (k + 1) = nI (v 9 (k + 1) 0) := hC.1 9 (k + 1) 0 o92
  refine x_Ct_w (by decide) (Nat.le_of_ble_eq_true rfl) ok31 [] 6 ?_
  refine Exists.intro _ (And.intro c_purse (And.intro (And.intro (Nat.zero_le _) (Nat.zero_le _)) (fun q h' hp => ?_)))
  obtain ⟨rfl, rfl⟩ := hp
  rw [x_pl4]
  refine And.intro (x_ix_nI (by omega) (by omega)) ?_
  rw [nI_clamp (by omega)]
  refine Exists.intro _ (And.intro c_purse (And.intro (And.intro (Nat.zero_le _) (Nat.zero_le _)) (fun q h' hp => ?_)))
  obtain ⟨rfl, rfl⟩ := hp
  rw [x_pl4]
  refine And.intro (x_ix_nI (by omega) (by omega)) ?_
  rw [nI_clamp (by omega)]
  refine And.intro (x_ix_nI (by omega) (by omega)) ?_
  rw [nI_clamp (by omega)]
  refine Exists.intro _ (And.intro (c_renewedFor_12 hC hB hp hk) (And.intro (And.intro (Nat.zero_le _) (Nat.zero_le _)) (fun q h' hp => ?_)))
  obtain ⟨rfl, rfl⟩ := hp
  refine And.intro (by rw [show nI k + Int32.ofInt 1 = nI (k + 1) from nI_1 k]; exact x_ix_nI (by omega) (by omega)) ?_
  rw [show nI k + Int32.ofInt 1 = nI (k + 1) from nI_1 k, nI_clamp (by omega)]
  exact And.intro ⟨(by show some (Value.int ((f 19 (4 * p + k) + f 20 (4 * p + k)) * f 15 k - nI (d_ren v p k) * f 15 (k + 1))) = _; rw [h13, h14, h9, h92, nI_add, pk_mul, pk_mul]), rfl⟩ ⟨trivial, Nat.le_refl _, Nat.le_refl _⟩
theorem c_mendTorn_22 {p k m : Nat} (hC : v_C f g 22 v) (hB : v_B v) (hp : p < v 2 0 0) (hk : k < v 0 0 0) (hm : m ≤ 999) : x_Ct 26 (d + 1) [.ref 22, .int (nI p), .int (nI k), .int (nI m)] (f, g, x_HR r t, dm, n) (if v 14 p k < m then (fun q h' => q = some (.int (-1)) ∧ h' = (f, g, x_HR r t, dm, n)) else x_PL f g 22 (x_HR r t) dm n (.int (nI (d_back v p k m))) (d_mend v p k m)) := by
  have bK := v_B_K hB
  have bP := v_B_P hB
  have bG := v_B_G hB
  have o13 : v_ok v 13 p k := show p < v 2 0 0 ∧ k < v 0 0 0 from ⟨hp, hk⟩
  have o14 : v_ok v 14 p k := show p < v 2 0 0 ∧ k < v 0 0 0 from ⟨hp, hk⟩
  have o9 : v_ok v 9 k 0 := show k < v 0 0 0 ∧ 0 = 0 from ⟨hk, rfl⟩
  have h13 : f 29 (4 * p + k) = nI (v 13 p k) := hC.1 13 p k o13
  have h14 : f 30 (4 * p + k) = nI (v 14 p k) := hC.1 14 p k o14
  have h9 : f 25 k = nI (v 9 k 0) := hC.1 9 k 0 o9
  have b13 : v 13 p k ≤ 9999 := (hB.1 13 p k o13).2
  have b14 : v 14 p k ≤ 9999 := (hB.1 14 p k o14).2
  have b9 : v 9 k 0 ≤ 500 := (hB.1 9 k 0 o9).2
  have bk := d_kept_le v hB hm
  have hback : (if nI 9999 - f 29 (4 * p + k) < nI m - nI (d_kept v m) then nI 9999 - f 29 (4 * p + k) else nI m - nI (d_kept v m)) = nI (d_back v p k m) := by
    rw [h13, pk_sub (by omega), pk_sub (by omega), x_min_nI (by omega) (by omega)]
    rfl
  have bb : d_back v p k m ≤ m := Nat.le_trans (Nat.min_le_left _ _) (Nat.sub_le _ _)
  refine x_Ct_w (by decide) (Nat.le_of_ble_eq_true rfl) ok26 [] 6 ?_
  refine Exists.intro _ (And.intro c_purse (And.intro (And.intro (Nat.zero_le _) (Nat.zero_le _)) (fun q h' hp => ?_)))
  obtain ⟨rfl, rfl⟩ := hp
  rw [x_pl4]
  refine And.intro (x_ix_nI (by omega) (by omega)) ?_
  rw [nI_clamp (by omega)]
  refine And.intro (fun c => ?_) (fun c => ?_)
  · have c : nI m ≤ f 30 (4 * p + k) := c
    rw [h14, nI_leI (by omega) (by omega)] at c
    rw [if_neg (by omega)]
    refine Exists.intro _ (And.intro (c_keptFrom_22 hC hB (by omega)) (And.intro (And.intro (Nat.zero_le _) (Nat.zero_le _)) (fun q h' hp => ?_)))
    obtain ⟨rfl, rfl⟩ := hp
    refine And.intro (x_ix_nI (by omega) (by omega)) ?_
    rw [nI_clamp (by omega)]
    refine And.intro (x_ix_nI (by omega) (by omega)) ?_
    rw [nI_clamp (by omega)]
    refine And.intro (x_ix_nI (by omega) (by omega)) ?_
    rw [nI_clamp (by omega)]
    refine And.intro (x_ix_nI (by omega) (by omega)) ?_
    rw [nI_clamp (by omega)]
    refine And.intro (x_ix_nI (by omega) (by omega)) ?_
    rw [nI_clamp (by omega)]
    refine And.intro (x_ix_nI (by omega) (by omega)) ?_
    rw [nI_clamp (by omega)]
    refine And.intro ?_ ⟨trivial, Nat.le_refl _, Nat.le_refl _⟩
    refine ⟨_, _, rfl, ?_, ?_, rfl, fun k2 hk2 _ => ⟨?_, ?_⟩⟩
    · show some (Value.int (if nI 9999 - f 29 (4 * p + k) < nI m - nI (d_kept v m) then nI 9999 - f 29 (4 * p + k) else nI m - nI (d_kept v m))) = _
      rw [hback]
    · show v_C (x_up (x_up f 30 (4 * p + k) (f 30 (4 * p + k) - nI m)) 29 (4 * p + k) (f 29 (4 * p + k) + (if nI 9999 - f 29 (4 * p + k) < nI m - nI (d_kept v m) then nI 9999 - f 29 (4 * p + k) else nI m - nI (d_kept v m)))) (x_up g 22 7 (g 22 7 + (nI m - (if nI 9999 - f 29 (4 * p + k) < nI m - nI (d_kept v m) then nI 9999 - f 29 (4 * p + k) else nI m - nI (d_kept v m))).toInt64 * (f 25 k).toInt64)) 22 _
      rw [hback, h14, h9, hC.2.2, h13, pk_sub c, pk_sub bb, nI_add, nI_l (by omega), nI_l (by omega), lN_mul, lN_add]
      exact v_C_17 (v_C_set (v_C_set hC bK bG o14 (x := v 14 p k - m) (by decide)) bK bG (c := 13) (i := p) (j := k) (x := v 13 p k + d_back v p k m) ((v_ok_set (by decide)).mpr o13) (by decide)) _
    · show x_up (x_up f 30 _ _) 29 _ _ k2 = f k2
      rw [x_up_k (by omega), x_up_k (by omega)]
    · show x_up g 22 _ _ k2 = g k2
      rw [x_up_k (by omega)]
  · have c : ¬ nI m ≤ f 30 (4 * p + k) := c
    rw [h14, nI_leI (by omega) (by omega)] at c
    rw [if_pos (by omega)]
    exact And.intro ⟨rfl, rfl⟩ ⟨trivial, Nat.le_refl _, Nat.le_refl _⟩
theorem c_handOver_22 {p p2 k m : Nat} (hC : v_C f g 22 v) (hB : v_B v) (hp : p < v 2 0 0) (hp2 : p2 < v 2 0 0) (hne : p ≠ p2) (hk : k < v 0 0 0) (hm : m ≤ 999) : x_Ct 27 (d + 1) [.ref 22, .int (nI p), .int (nI p2), .int (nI k), .int (nI m)] (f, g, x_HR r t, dm, n) (if v 13 p k < m ∨ 9999 < v 13 p2 k + m then (fun q h' => q = some (.int 0) ∧ h' = (f, g, x_HR r t, dm, n)) else x_PL f g 22 (x_HR r t) dm n (.int 1) (d_give v p p2 k m)) := by
  have bK := v_B_K hB
  have bP := v_B_P hB
  have bG := v_B_G hB
  have o13 : v_ok v 13 p k := show p < v 2 0 0 ∧ k < v 0 0 0 from ⟨hp, hk⟩
  have o23 : v_ok v 13 p2 k := show p2 < v 2 0 0 ∧ k < v 0 0 0 from ⟨hp2, hk⟩
  have h13 : f 29 (4 * p + k) = nI (v 13 p k) := hC.1 13 p k o13
  have h23 : f 29 (4 * p2 + k) = nI (v 13 p2 k) := hC.1 13 p2 k o23
  have b13 : v 13 p k ≤ 9999 := (hB.1 13 p k o13).2
  have b23 : v 13 p2 k ≤ 9999 := (hB.1 13 p2 k o23).2
  refine x_Ct_w (by decide) (Nat.le_of_ble_eq_true rfl) ok27 [] 6 ?_
  refine Exists.intro _ (And.intro c_purse (And.intro (And.intro (Nat.zero_le _) (Nat.zero_le _)) (fun q h' hp => ?_)))
  obtain ⟨rfl, rfl⟩ := hp
  rw [x_pl4]
  refine Exists.intro _ (And.intro c_purse (And.intro (And.intro (Nat.zero_le _) (Nat.zero_le _)) (fun q h' hp => ?_)))
  obtain ⟨rfl, rfl⟩ := hp
  rw [x_pl4]
  refine And.intro (x_ix_nI (by omega) (by omega)) ?_
  rw [nI_clamp (by omega)]
  refine And.intro (fun c => ?_) (fun c => ?_)
  · have c : f 29 (4 * p + k) < nI m := c
    rw [h13, nI_ltI (by omega) (by omega)] at c
    rw [if_pos (Or.inl c)]
    exact And.intro ⟨rfl, rfl⟩ ⟨Or.inl rfl, Nat.le_refl _, Nat.le_refl _⟩
  · have c : ¬ f 29 (4 * p + k) < nI m := c
    rw [h13, nI_ltI (by omega) (by omega)] at c
    refine And.intro (x_ix_nI (by omega) (by omega)) ?_
    rw [nI_clamp (by omega)]
    refine And.intro (fun c2 => ?_) (fun c2 => ?_)
    · have c2 : f 29 (4 * p2 + k) + nI m ≤ nI 9999 := c2
      rw [h23, nI_add, nI_leI (by omega) (by omega)] at c2
      rw [if_neg (by omega)]
      refine And.intro (x_ix_nI (by omega) (by omega)) ?_
      rw [nI_clamp (by omega)]
      refine And.intro (x_ix_nI (by omega) (by omega)) ?_
      rw [nI_clamp (by omega)]
      refine And.intro (x_ix_nI (by omega) (by omega)) ?_
      rw [nI_clamp (by omega)]
      refine And.intro (x_ix_nI (by omega) (by omega)) ?_
      rw [nI_clamp (by omega)]
      refine And.intro ?_ ⟨Or.inr rfl, Nat.le_refl _, Nat.le_refl _⟩
      refine ⟨_, _, rfl, rfl, ?_, rfl, fun k2 hk2 _ => ⟨?_, rfl⟩⟩
      · show v_C (x_up (x_up f 29 (4 * p + k) (f 29 (4 * p + k) - nI m)) 29 (4 * p2 + k) (x_up f 29 (4 * p + k) (f 29 (4 * p + k) - nI m) 29 (4 * p2 + k) + nI m)) g 22 _
        rw [x_up_j (show 4 * p2 + k ≠ 4 * p + k by omega), h13, h23, pk_sub (by omega), nI_add]
        exact v_C_set (v_C_set hC bK bG o13 (x := v 13 p k - m) (by decide)) bK bG (c := 13) (i := p2) (j := k) (x := v 13 p2 k + m) ((v_ok_set (by decide)).mpr o23) (by decide)
      · show x_up (x_up f 29 _ _) 29 _ _ k2 = f k2
        rw [x_up_k (by omega), x_up_k (by omega)]
    · have c2 : ¬ f 29 (4 * p2 + k) + nI m ≤ nI 9999 := c2
      rw [h23, nI_add, nI_leI (by omega) (by omega)] at c2
      rw [if_pos (by omega)]
      exact And.intro ⟨rfl, rfl⟩ ⟨Or.inl rfl, Nat.le_refl _, Nat.le_refl _⟩
theorem c_carryOut_22 {p k m : Nat} (hC : v_C f g 22 v) (hB : v_B v) (hp : p < v 2 0 0) (hk : k < v 0 0 0) (hm : m ≤ 999) : x_Ct 29 (d + 1) [.ref 22, .int (nI p), .int (nI k), .int (nI m)] (f, g, x_HR r t, dm, n) (if v 13 p k < m ∨ 99999 < v 12 p 0 + d_got v k m then (fun q h' => q = some (.int (-1)) ∧ h' = (f, g, x_HR r t, dm, n)) else x_PL f g 22 (x_HR r t) dm n (.int (nI (d_got v k m))) (d_cross v p k m)) := by
  have bK := v_B_K hB
  have bP := v_B_P hB
  have bG := v_B_G hB
  have o13 : v_ok v 13 p k := show p < v 2 0 0 ∧ k < v 0 0 0 from ⟨hp, hk⟩
  have o14 : v_ok v 14 p k := show p < v 2 0 0 ∧ k < v 0 0 0 from ⟨hp, hk⟩
  have o9 : v_ok v 9 k 0 := show k < v 0 0 0 ∧ 0 = 0 from ⟨hk, rfl⟩
  have h13 : f 29 (4 * p + k) = nI (v 13 p k) := hC.1 13 p k o13
  have h14 : f 30 (4 * p + k) = nI (v 14 p k) := hC.1 14 p k o14
  have h9 : f 25 k = nI (v 9 k 0) := hC.1 9 k 0 o9
  have b13 : v 13 p k ≤ 9999 := (hB.1 13 p k o13).2
  have b14 : v 14 p k ≤ 9999 := (hB.1 14 p k o14).2
  have b9 : v 9 k 0 ≤ 500 := (hB.1 9 k 0 o9).2
  have o12 : v_ok v 12 p 0 := show p < v 2 0 0 ∧ 0 = 0 from ⟨hp, rfl⟩
  have h12 : f 28 p = nI (v 12 p 0) := hC.1 12 p 0 o12
  have b12 : v 12 p 0 ≤ 99999 := (hB.1 12 p 0 o12).2
  have h7 : f 22 4 = nI (v 7 0 0) := hC.1 7 0 0 ⟨rfl, rfl⟩
  have b7 : v 7 0 0 ≤ 21000000 := (hB.1 7 0 0 ⟨rfl, rfl⟩).2
  have b7a : 1 ≤ v 7 0 0 := (hB.1 7 0 0 ⟨rfl, rfl⟩).1
  have bm : m * v 9 k 0 ≤ 999 * 500 := Nat.mul_le_mul hm b9
  have bg : d_got v k m ≤ 999 * 500 := Nat.le_trans (Nat.div_le_self _ _) bm
  have hgot : nI m * f 25 k / (if (1 : Int32) < f 22 4 then f 22 4 else 1) = nI (d_got v k m) := by
    rw [h9, h7, x_max1_nI (by omega) b7a, pk_mul, pk_div (by omega) (by omega) (by omega)]
    rfl
  refine x_Ct_w (by decide) (Nat.le_of_ble_eq_true rfl) ok29 [] 6 ?_
  refine Exists.intro _ (And.intro c_purse (And.intro (And.intro (Nat.zero_le _) (Nat.zero_le _)) (fun q h' hp => ?_)))
  obtain ⟨rfl, rfl⟩ := hp
  rw [x_pl4]
  refine And.intro (x_ix_nI (by omega) (by omega)) ?_
  rw [nI_clamp (by omega)]
  refine And.intro (by show ¬ (if (1 : Int32) < f 22 4 then f 22 4 else 1) = 0; rw [h7, x_max1_nI (by omega) b7a]; exact x_ne0 (by omega) b7a) ?_
  refine And.intro (x_ix_nI (by omega) (by omega)) ?_
  rw [nI_clamp (by omega)]
  refine And.intro (fun c => ?_) (fun c => ?_)
  · have c : f 29 (4 * p + k) < nI m := c
    rw [h13, nI_ltI (by omega) (by omega)] at c
    rw [if_pos (Or.inl c)]
    exact And.intro ⟨rfl, rfl⟩ ⟨trivial, Nat.le_refl _, Nat.le_refl _⟩
  · have c : ¬ f 29 (4 * p + k) < nI m := c
    rw [h13, nI_ltI (by omega) (by omega)] at c
    refine And.intro (x_ix_nI (by omega) (by omega)) ?_
    rw [nI_clamp (by omega)]
    refine And.intro (fun c2 => ?_) (fun c2 => ?_)
    · have c2 : f 28 p + nI m * f 25 k / (if (1 : Int32) < f 22 4 then f 22 4 else 1) ≤ nI 99999 := c2
      rw [h12, hgot, nI_add, nI_leI (by omega) (by omega)] at c2
      rw [if_neg (by omega)]
      refine And.intro (x_ix_nI (by omega) (by omega)) ?_
      rw [nI_clamp (by omega)]
      refine And.intro (x_ix_nI (by omega) (by omega)) ?_
      rw [nI_clamp (by omega)]
      refine And.intro (x_ix_nI (by omega) (by omega)) ?_
      rw [nI_clamp (by omega)]
      refine And.intro (x_ix_nI (by omega) (by omega)) ?_
      rw [nI_clamp (by omega)]
      refine And.intro ?_ ⟨trivial, Nat.le_refl _, Nat.le_refl _⟩
      refine ⟨_, _, rfl, ?_, ?_, rfl, fun k2 hk2 _ => ⟨?_, rfl⟩⟩
      · show some (Value.int (nI m * f 25 k / (if (1 : Int32) < f 22 4 then f 22 4 else 1))) = _
        rw [hgot]
      · show v_C (x_up (x_up f 29 (4 * p + k) (f 29 (4 * p + k) - nI m)) 28 p (f 28 p + nI m * f 25 k / (if (1 : Int32) < f 22 4 then f 22 4 else 1))) g 22 _
        rw [hgot, h13, h12, pk_sub (by omega), nI_add]
        exact v_C_set (v_C_set hC bK bG o13 (x := v 13 p k - m) (by decide)) bK bG (c := 12) (i := p) (j := 0) (x := v 12 p 0 + d_got v k m) ((v_ok_set (by decide)).mpr o12) (by decide)
      · show x_up (x_up f 29 _ _) 28 _ _ k2 = f k2
        rw [x_up_k (by omega), x_up_k (by omega)]
    · have c2 : ¬ f 28 p + nI m * f 25 k / (if (1 : Int32) < f 22 4 then f 22 4 else 1) ≤ nI 99999 := c2
      rw [h12, hgot, nI_add, nI_leI (by omega) (by omega)] at c2
      rw [if_pos (by omega)]
      exact And.intro ⟨rfl, rfl⟩ ⟨trivial, Nat.le_refl _, Nat.le_refl _⟩
theorem c_renewedFor_22 {p k : Nat} (hC : v_C f g 22 v) (hB : v_B v) (hp : p < v 2 0 0) (hk : k + 1 < v 0 0 0) : x_V 30 (d + 1) [.ref 22, .int (nI p), .int (nI k)] (f, g, x_HR r t, dm, n) (.int (nI (d_ren v p k))) (f, g, x_HR r t, dm, n) := by
  have bK := v_B_K hB
  have bP := v_B_P hB
  have o13 : v_ok v 13 p k := show p < v 2 0 0 ∧ k < v 0 0 0 from ⟨hp, by omega⟩
  have o14 : v_ok v 14 p k := show p < v 2 0 0 ∧ k < v 0 0 0 from ⟨hp, by omega⟩
  have o23 : v_ok v 13 p (k + 1) := show p < v 2 0 0 ∧ k + 1 < v 0 0 0 from ⟨hp, hk⟩
  have h13 : f 29 (4 * p + k) = nI (v 13 p k) := hC.1 13 p k o13
  have h14 : f 30 (4 * p + k) = nI (v 14 p k) := hC.1 14 p k o14
  have h23 : f 29 (4 * p + (k + 1)) = nI (v 13 p (k + 1)) := hC.1 13 p (k + 1) o23
  have b13 : v 13 p k ≤ 9999 := (hB.1 13 p k o13).2
  have b14 : v 14 p k ≤ 9999 := (hB.1 14 p k o14).2
  have b23 : v 13 p (k + 1) ≤ 9999 := (hB.1 13 p (k + 1) o23).2
  refine x_Ct_w (by decide) (Nat.le_of_ble_eq_true rfl) ok30 [] 6 ?_
  refine Exists.intro _ (And.intro c_purse (And.intro (And.intro (Nat.zero_le _) (Nat.zero_le _)) (fun q h' hp => ?_)))
  obtain ⟨rfl, rfl⟩ := hp
  rw [x_pl4]
  refine And.intro (x_ix_nI (by omega) (by omega)) ?_
  rw [nI_clamp (by omega)]
  refine Exists.intro _ (And.intro c_purse (And.intro (And.intro (Nat.zero_le _) (Nat.zero_le _)) (fun q h' hp => ?_)))
  obtain ⟨rfl, rfl⟩ := hp
  rw [x_pl4]
  refine And.intro (x_ix_nI (by omega) (by omega)) ?_
  rw [nI_clamp (by omega)]
  refine And.intro (by decide) ?_
  refine Exists.intro _ (And.intro c_purse (And.intro (And.intro (Nat.zero_le _) (Nat.zero_le _)) (fun q h' hp => ?_)))
  obtain ⟨rfl, rfl⟩ := hp
  rw [show nI k + Int32.ofInt 1 = nI (k + 1) from nI_1 k, x_pl4]
  refine And.intro (x_ix_nI (by omega) (by omega)) ?_
  rw [nI_clamp (by omega)]
  exact And.intro ⟨(by show some (Value.int (if nI 9999 - f 29 (4 * p + (k + 1)) < (f 29 (4 * p + k) + f 30 (4 * p + k)) / nI 5 then nI 9999 - f 29 (4 * p + (k + 1)) else (f 29 (4 * p + k) + f 30 (4 * p + k)) / nI 5)) = _; rw [h13, h14, h23, nI_add, pk_div (by omega) (by decide) (by decide), pk_sub (by omega), x_min_nI (by omega) (by omega)]; rfl), rfl⟩ ⟨trivial, Nat.le_refl _, Nat.le_refl _⟩
theorem c_lossOf_22 {p k : Nat} (hC : v_C f g 22 v) (hB : v_B v) (hp : p < v 2 0 0) (hk : k + 1 < v 0 0 0) : x_V 31 (d + 2) [.ref 22, .int (nI p), .int (nI k)] (f, g, x_HR r t, dm, n) (.int (nI ((v 13 p k + v 14 p k) * v 9 k 0) - nI (d_ren v p k * v 9 (k + 1) 0))) (f, g, x_HR r t, dm, n) := by
  have bK := v_B_K hB
  have bP := v_B_P hB
  have o13 : v_ok v 13 p k := show p < v 2 0 0 ∧ k < v 0 0 0 from ⟨hp, by omega⟩
  have o14 : v_ok v 14 p k := show p < v 2 0 0 ∧ k < v 0 0 0 from ⟨hp, by omega⟩
  have o9 : v_ok v 9 k 0 := show k < v 0 0 0 ∧ 0 = 0 from ⟨by omega, rfl⟩
  have o92 : v_ok v 9 (k + 1) 0 := show k + 1 < v 0 0 0 ∧ 0 = 0 from ⟨hk, rfl⟩
  have h13 : f 29 (4 * p + k) = nI (v 13 p k) := hC.1 13 p k o13
  have h14 : f 30 (4 * p + k) = nI (v 14 p k) := hC.1 14 p k o14
  have h9 : f 25 k = nI (v 9 k 0) := hC.1 9 k 0 o9
  have h92 : f 25 (k + 1) = nI (v 9 (k + 1) 0) := hC.1 9 (k + 1) 0 o92
  refine x_Ct_w (by decide) (Nat.le_of_ble_eq_true rfl) ok31 [] 6 ?_
  refine Exists.intro _ (And.intro c_purse (And.intro (And.intro (Nat.zero_le _) (Nat.zero_le _)) (fun q h' hp => ?_)))
  obtain ⟨rfl, rfl⟩ := hp
  rw [x_pl4]
  refine And.intro (x_ix_nI (by omega) (by omega)) ?_
  rw [nI_clamp (by omega)]
  refine Exists.intro _ (And.intro c_purse (And.intro (And.intro (Nat.zero_le _) (Nat.zero_le _)) (fun q h' hp => ?_)))
  obtain ⟨rfl, rfl⟩ := hp
  rw [x_pl4]
  refine And.intro (x_ix_nI (by omega) (by omega)) ?_
  rw [nI_clamp (by omega)]
  refine And.intro (x_ix_nI (by omega) (by omega)) ?_
  rw [nI_clamp (by omega)]
  refine Exists.intro _ (And.intro (c_renewedFor_22 hC hB hp hk) (And.intro (And.intro (Nat.zero_le _) (Nat.zero_le _)) (fun q h' hp => ?_)))
  obtain ⟨rfl, rfl⟩ := hp
  refine And.intro (by rw [show nI k + Int32.ofInt 1 = nI (k + 1) from nI_1 k]; exact x_ix_nI (by omega) (by omega)) ?_
  rw [show nI k + Int32.ofInt 1 = nI (k + 1) from nI_1 k, nI_clamp (by omega)]
  exact And.intro ⟨(by show some (Value.int ((f 29 (4 * p + k) + f 30 (4 * p + k)) * f 25 k - nI (d_ren v p k) * f 25 (k + 1))) = _; rw [h13, h14, h9, h92, nI_add, pk_mul, pk_mul]), rfl⟩ ⟨trivial, Nat.le_refl _, Nat.le_refl _⟩
end C20
