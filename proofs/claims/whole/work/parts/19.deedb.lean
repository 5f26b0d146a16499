theorem x_min_nI {a b : Nat} (ha : a < 2 ^ 31) (hb : b < 2 ^ 31) : (if nI b < nI a then nI b else nI a) = nI (min a b) := by
  by_cases h : b < a
  · rw [if_pos (nI_lt h ha), Nat.min_eq_right (by omega)]
  · rw [if_neg (nI_nlt (by omega) hb), Nat.min_eq_left (by omega)]
theorem x_max1_nI {a : Nat} (ha : a < 2 ^ 31) (h1 : 1 ≤ a) : (if (1 : Int32) < nI a then nI a else 1) = nI a := by
  by_cases h : 1 < a
  · have h9 : (1 : Int32) < nI a := nI_lt (a := 1) h ha
    rw [if_pos h9]
  · have : a = 1 := by omega
    subst this
    rfl
theorem x_ne0 {a : Nat} (ha : a < 2 ^ 31) (h1 : 1 ≤ a) : ¬ nI a = 0 := nI_ne0 h1 ha
theorem v_C_16 {f : Nat → Nat → Int32} {g : Nat → Nat → Int64} {L : Nat} {v : xV} (h : v_C f g L v) (x : Nat) : v_C f (x_up g L 6 (lN x)) L (v_set v 16 0 0 x) := by
  refine ⟨fun c i j hv => ?_, by rw [x_up_s, v_set_s], by rw [x_up_j (by decide), v_set_c (by decide)]; exact h.2.2⟩
  have hv := (v_ok_set (v := v) (c := 16) (by decide)).mp hv
  have := v_ok_le hv
  rw [v_set_c (by omega)]
  exact h.1 c i j hv
theorem v_C_17 {f : Nat → Nat → Int32} {g : Nat → Nat → Int64} {L : Nat} {v : xV} (h : v_C f g L v) (x : Nat) : v_C f (x_up g L 7 (lN x)) L (v_set v 17 0 0 x) := by
  refine ⟨fun c i j hv => ?_, by rw [x_up_j (by decide), v_set_c (by decide)]; exact h.2.1, by rw [x_up_s, v_set_s]⟩
  have hv := (v_ok_set (v := v) (c := 17) (by decide)).mp hv
  have := v_ok_le hv
  rw [v_set_c (by omega)]
  exact h.1 c i j hv
/-! deeds on a view -/
def d_pay (v : xV) (p k m : Nat) : xV := v_set (v_set v 13 p k (v 13 p k + m)) 16 0 0 (v 16 0 0 + m * v 9 k 0)
def d_kept (v : xV) (m : Nat) : Nat := (m * v 4 0 0 + 99) / 100
def d_back (v : xV) (p k m : Nat) : Nat := min (m - d_kept v m) (9999 - v 13 p k)
def d_mend (v : xV) (p k m : Nat) : xV := v_set (v_set (v_set v 14 p k (v 14 p k - m)) 13 p k (v 13 p k + d_back v p k m)) 17 0 0 (v 17 0 0 + (m - d_back v p k m) * v 9 k 0)
def d_give (v : xV) (p p2 k m : Nat) : xV := v_set (v_set v 13 p k (v 13 p k - m)) 13 p2 k (v 13 p2 k + m)
def d_burn (v : xV) (p k m : Nat) : xV := v_set (v_set v 13 p k (v 13 p k - m)) 17 0 0 (v 17 0 0 + m * v 9 k 0)
def d_got (v : xV) (k m : Nat) : Nat := m * v 9 k 0 / v 7 0 0
def d_cross (v : xV) (p k m : Nat) : xV := v_set (v_set v 13 p k (v 13 p k - m)) 12 p 0 (v 12 p 0 + d_got v k m)
def d_ren (v : xV) (p k : Nat) : Nat := min ((v 13 p k + v 14 p k) / 5) (9999 - v 13 p (k + 1))
def d_mon1 (v : xV) (m : Nat) : xV := v_set (v_set (v_set v 6 0 0 (v 6 0 0 + m)) 8 0 0 (v 8 0 0 + m * v 5 0 0)) 16 0 0 (v 16 0 0 + m * v 5 0 0)
def d_mon (v : xV) (m : Nat) : xV := v_set (d_mon1 v m) 7 0 0 (1 + v_out (d_mon1 v m) / v 3 0 0)
theorem d_kept_le (v : xV) (hB : v_B v) {m : Nat} (hm : m ≤ 999) : d_kept v m ≤ m := by
  have h4 : v 4 0 0 ≤ 50 := (hB.1 4 0 0 ⟨rfl, rfl⟩).2
  unfold d_kept
  have : m * v 4 0 0 ≤ m * 50 := Nat.mul_le_mul_left m h4
  omega
section C19
variable {f : Nat → Nat → Int32} {g : Nat → Nat → Int64} {r t : Nat} {dm : List Nat} {n d : Nat} {v : xV} {h : xH}
theorem c_levelBy {o c : Nat} (ho : o < 2 ^ 31) (hc : c < 2 ^ 31) (h1 : 1 ≤ c) : x_V 11 (d + 1) [.int (nI o), .int (nI c)] h (.int (nI (1 + o / c))) h := by
  refine x_Ct_w (by decide) (Nat.le_of_ble_eq_true rfl) ok11 [] 2 ?_
  refine And.intro (by show ¬ (if (1 : Int32) < nI c then nI c else 1) = 0; rw [x_max1_nI hc h1]; exact x_ne0 hc h1) ?_
  exact And.intro ⟨(by show some (Value.int (1 + nI o / (if (1 : Int32) < nI c then nI c else 1))) = _; rw [x_max1_nI hc h1, pk_div ho (by omega) hc, show (1 : Int32) = nI 1 from rfl, nI_add]), rfl⟩ ⟨trivial, Nat.le_refl _, Nat.le_refl _⟩
theorem c_levelAfter_12 {m o : Nat} (hC : v_C f g 12 v) (hB : v_B v) (hm : m ≤ 999) (ho : o ≤ 2000000000) : x_V 12 (d + 2) [.ref 12, .int (nI m), .int (nI o)] (f, g, x_HR r t, dm, n) (.int (nI (1 + (o + m * v 5 0 0) / v 3 0 0))) (f, g, x_HR r t, dm, n) := by
  have h3 : f 13 0 = nI (v 3 0 0) := hC.1 3 0 0 ⟨rfl, rfl⟩
  have h5 : f 13 2 = nI (v 5 0 0) := hC.1 5 0 0 ⟨rfl, rfl⟩
  have b3 := hB.1 3 0 0 ⟨rfl, rfl⟩
  have b5 : v 5 0 0 ≤ 999 := (hB.1 5 0 0 ⟨rfl, rfl⟩).2
  have b3a : 10 ≤ v 3 0 0 := b3.1
  have b3b : v 3 0 0 ≤ 9999 := b3.2
  have bm : m * v 5 0 0 ≤ 999 * 999 := Nat.mul_le_mul hm b5
  refine x_Ct_w (by decide) (Nat.le_of_ble_eq_true rfl) ok12 [] 2 ?_
  refine And.intro (x_ix_nI (j := 2) (by decide) (by decide)) ?_
  refine And.intro (x_ix_nI (j := 0) (by decide) (by decide)) ?_
  have e : x_V 11 (d + 1) [.int (nI o + nI m * f 13 2), .int (f 13 0)] (f, g, x_HR r t, dm, n) (.int (nI (1 + (o + m * v 5 0 0) / v 3 0 0))) (f, g, x_HR r t, dm, n) := by
    rw [h3, h5, pk_mul, nI_add]
    exact c_levelBy (by omega) (by omega) (by omega)
  refine Exists.intro _ (And.intro e (And.intro (And.intro (Nat.zero_le _) (Nat.zero_le _)) (fun q h' hp => ?_)))
  obtain ⟨rfl, rfl⟩ := hp
  exact And.intro ⟨rfl, rfl⟩ ⟨trivial, Nat.le_refl _, Nat.le_refl _⟩
theorem c_wealthOf_12 {p : Nat} (hC : v_C f g 12 v) (hB : v_B v) (hp : p < v 2 0 0) : x_V 15 (d + 2) [.ref 12, .int (nI p)] (f, g, x_HR r t, dm, n) (.int (nI (v_ws v 13 p (v 0 0 0)))) (f, g, x_HR r t, dm, n) := by
  have hK : f 12 0 = nI (v 0 0 0) := hC.1 0 0 0 ⟨rfl, rfl⟩
  have bP := v_B_P hB
  refine x_Ct_w (by decide) (Nat.le_of_ble_eq_true rfl) ok15 [] 2 ?_
  refine Exists.intro _ (And.intro (c_worthOf_12_19 hK (v_B_K hB) (by omega)) (And.intro (And.intro (Nat.zero_le _) (Nat.zero_le _)) (fun q h' hp => ?_)))
  obtain ⟨rfl, rfl⟩ := hp
  exact And.intro ⟨(by rw [← v_C_ws hC (Or.inl rfl) hp _ (Nat.le_refl _)]), rfl⟩ ⟨trivial, Nat.le_refl _, Nat.le_refl _⟩
theorem c_priceOf_12 {i : Nat} (hC : v_C f g 12 v) (hB : v_B v) (hi : i < v 1 0 0) : x_V 16 d [.ref 12, .int (nI i)] (f, g, x_HR r t, dm, n) (.long (lN (v 10 i 0 * v 7 0 0))) (f, g, x_HR r t, dm, n) := by
  have bG := v_B_G hB
  have o10 : v_ok v 10 i 0 := show i < v 1 0 0 ∧ 0 = 0 from ⟨hi, rfl⟩
  have h10 : f 16 i = nI (v 10 i 0) := hC.1 10 i 0 o10
  have h7 : f 12 4 = nI (v 7 0 0) := hC.1 7 0 0 ⟨rfl, rfl⟩
  have b10 : v 10 i 0 ≤ 99 := (hB.1 10 i 0 o10).2
  have b7 : v 7 0 0 ≤ 21000000 := (hB.1 7 0 0 ⟨rfl, rfl⟩).2
  refine x_Ct_w (by decide) (Nat.le_of_ble_eq_true rfl) ok16 [] 2 ?_
  refine And.intro (x_ix_nI (by omega) (by omega)) ?_
  rw [nI_clamp (by omega)]
  exact And.intro ⟨(by show some (Value.long ((f 16 i).toInt64 * (f 12 4).toInt64)) = _; rw [h10, h7, nI_l (by omega), nI_l (by omega), lN_mul]), rfl⟩ ⟨trivial, Nat.le_refl _, Nat.le_refl _⟩
theorem c_keptFrom_12 {m : Nat} (hC : v_C f g 12 v) (hB : v_B v) (hm : m ≤ 9999) : x_V 25 d [.ref 12, .int (nI m)] (f, g, x_HR r t, dm, n) (.int (nI (d_kept v m))) (f, g, x_HR r t, dm, n) := by
  have h4 : f 13 1 = nI (v 4 0 0) := hC.1 4 0 0 ⟨rfl, rfl⟩
  have b4 : v 4 0 0 ≤ 50 := (hB.1 4 0 0 ⟨rfl, rfl⟩).2
  have bm : m * v 4 0 0 ≤ 9999 * 50 := Nat.mul_le_mul hm b4
  refine x_Ct_w (by decide) (Nat.le_of_ble_eq_true rfl) ok25 [] 2 ?_
  refine And.intro (x_ix_nI (j := 1) (by decide) (by decide)) ?_
  refine And.intro (by decide) ?_
  exact And.intro ⟨(by show some (Value.int ((nI m * f 13 1 + nI 99) / nI 100)) = _; rw [h4, pk_mul, nI_add, pk_div (by omega) (by decide) (by decide)]; rfl), rfl⟩ ⟨trivial, Nat.le_refl _, Nat.le_refl _⟩
theorem c_printFor_12 {p k m : Nat} (hC : v_C f g 12 v) (hB : v_B v) (hp : p < v 2 0 0) (hk : k < v 0 0 0) (hm : m ≤ 999) : x_Ct 18 (d + 1) [.ref 12, .int (nI p), .int (nI k), .int (nI m)] (f, g, x_HR r t, dm, n) (if 9999 < v 13 p k + m then (fun q h' => q = some (.int (-1)) ∧ h' = (f, g, x_HR r t, dm, n)) else x_PL f g 12 (x_HR r t) dm n (.int (nI (v 13 p k + m))) (d_pay v p k m)) := by
  have bK := v_B_K hB
  have bP := v_B_P hB
  have bG := v_B_G hB
  have o13 : v_ok v 13 p k := show p < v 2 0 0 ∧ k < v 0 0 0 from ⟨hp, hk⟩
  have o9 : v_ok v 9 k 0 := show k < v 0 0 0 ∧ 0 = 0 from ⟨hk, rfl⟩
  have h13 : f 19 (4 * p + k) = nI (v 13 p k) := hC.1 13 p k o13
  have h9 : f 15 k = nI (v 9 k 0) := hC.1 9 k 0 o9
  have b13 : v 13 p k ≤ 9999 := (hB.1 13 p k o13).2
  have b9 : v 9 k 0 ≤ 500 := (hB.1 9 k 0 o9).2
  refine x_Ct_w (by decide) (Nat.le_of_ble_eq_true rfl) ok18 [] 6 ?_
  refine Exists.intro _ (And.intro c_purse (And.intro (And.intro (Nat.zero_le _) (Nat.zero_le _)) (fun q h' hp => ?_)))
  obtain ⟨rfl, rfl⟩ := hp
  rw [x_pl4]
  refine And.intro (x_ix_nI (by omega) (by omega)) ?_
  rw [nI_clamp (by omega)]
  refine And.intro (fun c => ?_) (fun c => ?_)
  · have c : f 19 (4 * p + k) + nI m ≤ nI 9999 := c
    rw [h13, nI_add, nI_leI (by omega) (by omega)] at c
    rw [if_neg (by omega)]
    refine And.intro (x_ix_nI (by omega) (by omega)) ?_
    rw [nI_clamp (by omega)]
    refine And.intro (x_ix_nI (by omega) (by omega)) ?_
    rw [nI_clamp (by omega)]
    refine And.intro (x_ix_nI (by omega) (by omega)) ?_
    rw [nI_clamp (by omega)]
    refine And.intro (x_ix_nI (by omega) (by omega)) ?_
    rw [nI_clamp (by omega)]
    refine And.intro ?_ ⟨trivial, Nat.le_refl _, Nat.le_refl _⟩
    refine ⟨_, _, rfl, ?_, ?_, rfl, fun k2 hk2 _ => ⟨?_, ?_⟩⟩
    · show some (Value.int (x_up f 19 (4 * p + k) (f 19 (4 * p + k) + nI m) 19 (4 * p + k))) = _
      rw [x_up_s, h13, nI_add]
    · have e := v_C_16 (v_C_set hC bK bG o13 (x := v 13 p k + m) (by decide)) (v 16 0 0 + m * v 9 k 0)
      rw [← lN_add, ← lN_mul, ← nI_l (show m < 2 ^ 31 by omega), ← nI_l (show v 9 k 0 < 2 ^ 31 by omega), ← h9, ← hC.2.1, ← nI_add, ← h13] at e
      exact e
    · show x_up f 19 _ _ k2 = f k2
      rw [x_up_k (by omega)]
    · show x_up g 12 _ _ k2 = g k2
      rw [x_up_k (by omega)]
  · have c : ¬ f 19 (4 * p + k) + nI m ≤ nI 9999 := c
    rw [h13, nI_add, nI_leI (by omega) (by omega)] at c
    rw [if_pos (by omega)]
    exact And.intro ⟨rfl, rfl⟩ ⟨trivial, Nat.le_refl _, Nat.le_refl _⟩
theorem c_burnWhole_12 {p k m : Nat} (hC : v_C f g 12 v) (hB : v_B v) (hp : p < v 2 0 0) (hk : k < v 0 0 0) (hm : m ≤ 999) : x_Ct 28 (d + 1) [.ref 12, .int (nI p), .int (nI k), .int (nI m)] (f, g, x_HR r t, dm, n) (if v 13 p k < m then (fun q h' => q = some (.int (-1)) ∧ h' = (f, g, x_HR r t, dm, n)) else x_PL f g 12 (x_HR r t) dm n (.int (nI (v 13 p k - m))) (d_burn v p k m)) := by
  have bK := v_B_K hB
  have bP := v_B_P hB
  have bG := v_B_G hB
  have o13 : v_ok v 13 p k := show p < v 2 0 0 ∧ k < v 0 0 0 from ⟨hp, hk⟩
  have o9 : v_ok v 9 k 0 := show k < v 0 0 0 ∧ 0 = 0 from ⟨hk, rfl⟩
  have h13 : f 19 (4 * p + k) = nI (v 13 p k) := hC.1 13 p k o13
  have h9 : f 15 k = nI (v 9 k 0) := hC.1 9 k 0 o9
  have b13 : v 13 p k ≤ 9999 := (hB.1 13 p k o13).2
  have b9 : v 9 k 0 ≤ 500 := (hB.1 9 k 0 o9).2
  refine x_Ct_w (by decide) (Nat.le_of_ble_eq_true rfl) ok28 [] 6 ?_
  refine Exists.intro _ (And.intro c_purse (And.intro (And.intro (Nat.zero_le _) (Nat.zero_le _)) (fun q h' hp => ?_)))
  obtain ⟨rfl, rfl⟩ := hp
  rw [x_pl4]
  refine And.intro (x_ix_nI (by omega) (by omega)) ?_
  rw [nI_clamp (by omega)]
  refine And.intro (fun c => ?_) (fun c => ?_)
  · have c : nI m ≤ f 19 (4 * p + k) := c
    rw [h13, nI_leI (by omega) (by omega)] at c
    rw [if_neg (by omega)]
    refine And.intro (x_ix_nI (by omega) (by omega)) ?_
    rw [nI_clamp (by omega)]
    refine And.intro (x_ix_nI (by omega) (by omega)) ?_
    rw [nI_clamp (by omega)]
    refine And.intro (x_ix_nI (by omega) (by omega)) ?_
    rw [nI_clamp (by omega)]
    refine And.intro (x_ix_nI (by omega) (by omega)) ?_
    rw [nI_clamp (by omega)]
    refine And.intro ?_ ⟨trivial, Nat.le_refl _, Nat.le_refl _⟩
    refine ⟨_, _, rfl, ?_, ?_, rfl, fun k2 hk2 _ => ⟨?_, ?_⟩⟩
    · show some (Value.int (x_up f 19 (4 * p + k) (f 19 (4 * p + k) - nI m) 19 (4 * p + k))) = _
      rw [x_up_s, h13, pk_sub c]
    · have e := v_C_17 (v_C_set hC bK bG o13 (x := v 13 p k - m) (by decide)) (v 17 0 0 + m * v 9 k 0)
      rw [← lN_add, ← lN_mul, ← nI_l (show m < 2 ^ 31 by omega), ← nI_l (show v 9 k 0 < 2 ^ 31 by omega), ← h9, ← hC.2.2, ← pk_sub c, ← h13] at e
      exact e
    · show x_up f 19 _ _ k2 = f k2
      rw [x_up_k (by omega)]
    · show x_up g 12 _ _ k2 = g k2
      rw [x_up_k (by omega)]
  · have c : ¬ nI m ≤ f 19 (4 * p + k) := c
    rw [h13, nI_leI (by omega) (by omega)] at c
    rw [if_pos (by omega)]
    exact And.intro ⟨rfl, rfl⟩ ⟨trivial, Nat.le_refl _, Nat.le_refl _⟩
theorem c_levelAfter_22 {m o : Nat} (hC : v_C f g 22 v) (hB : v_B v) (hm : m ≤ 999) (ho : o ≤ 2000000000) : x_V 12 (d + 2) [.ref 22, .int (nI m), .int (nI o)] (f, g, x_HR r t, dm, n) (.int (nI (1 + (o + m * v 5 0 0) / v 3 0 0))) (f, g, x_HR r t, dm, n) := by
  have h3 : f 23 0 = nI (v 3 0 0) := hC.1 3 0 0 ⟨rfl, rfl⟩
  have h5 : f 23 2 = nI (v 5 0 0) := hC.1 5 0 0 ⟨rfl, rfl⟩
  have b3 := hB.1 3 0 0 ⟨rfl, rfl⟩
  have b5 : v 5 0 0 ≤ 999 := (hB.1 5 0 0 ⟨rfl, rfl⟩).2
  have b3a : 10 ≤ v 3 0 0 := b3.1
  have b3b : v 3 0 0 ≤ 9999 := b3.2
  have bm : m * v 5 0 0 ≤ 999 * 999 := Nat.mul_le_mul hm b5
  refine x_Ct_w (by decide) (Nat.le_of_ble_eq_true rfl) ok12 [] 2 ?_
  refine And.intro (x_ix_nI (j := 2) (by decide) (by decide)) ?_
  refine And.intro (x_ix_nI (j := 0) (by decide) (by decide)) ?_
  have e : x_V 11 (d + 1) [.int (nI o + nI m * f 23 2), .int (f 23 0)] (f, g, x_HR r t, dm, n) (.int (nI (1 + (o + m * v 5 0 0) / v 3 0 0))) (f, g, x_HR r t, dm, n) := by
    rw [h3, h5, pk_mul, nI_add]
    exact c_levelBy (by omega) (by omega) (by omega)
  refine Exists.intro _ (And.intro e (And.intro (And.intro (Nat.zero_le _) (Nat.zero_le _)) (fun q h' hp => ?_)))
  obtain ⟨rfl, rfl⟩ := hp
  exact And.intro ⟨rfl, rfl⟩ ⟨trivial, Nat.le_refl _, Nat.le_refl _⟩
theorem c_wealthOf_22 {p : Nat} (hC : v_C f g 22 v) (hB : v_B v) (hp : p < v 2 0 0) : x_V 15 (d + 2) [.ref 22, .int (nI p)] (f, g, x_HR r t, dm, n) (.int (nI (v_ws v 13 p (v 0 0 0)))) (f, g, x_HR r t, dm, n) := by
  have hK : f 22 0 = nI (v 0 0 0) := hC.1 0 0 0 ⟨rfl, rfl⟩
  have bP := v_B_P hB
  refine x_Ct_w (by decide) (Nat.le_of_ble_eq_true rfl) ok15 [] 2 ?_
  refine Exists.intro _ (And.intro (c_worthOf_22_29 hK (v_B_K hB) (by omega)) (And.intro (And.intro (Nat.zero_le _) (Nat.zero_le _)) (fun q h' hp => ?_)))
  obtain ⟨rfl, rfl⟩ := hp
  exact And.intro ⟨(by rw [← v_C_ws hC (Or.inl rfl) hp _ (Nat.le_refl _)]), rfl⟩ ⟨trivial, Nat.le_refl _, Nat.le_refl _⟩
theorem c_priceOf_22 {i : Nat} (hC : v_C f g 22 v) (hB : v_B v) (hi : i < v 1 0 0) : x_V 16 d [.ref 22, .int (nI i)] (f, g, x_HR r t, dm, n) (.long (lN (v 10 i 0 * v 7 0 0))) (f, g, x_HR r t, dm, n) := by
  have bG := v_B_G hB
  have o10 : v_ok v 10 i 0 := show i < v 1 0 0 ∧ 0 = 0 from ⟨hi, rfl⟩
  have h10 : f 26 i = nI (v 10 i 0) := hC.1 10 i 0 o10
  have h7 : f 22 4 = nI (v 7 0 0) := hC.1 7 0 0 ⟨rfl, rfl⟩
  have b10 : v 10 i 0 ≤ 99 := (hB.1 10 i 0 o10).2
  have b7 : v 7 0 0 ≤ 21000000 := (hB.1 7 0 0 ⟨rfl, rfl⟩).2
  refine x_Ct_w (by decide) (Nat.le_of_ble_eq_true rfl) ok16 [] 2 ?_
  refine And.intro (x_ix_nI (by omega) (by omega)) ?_
  rw [nI_clamp (by omega)]
  exact And.intro ⟨(by show some (Value.long ((f 26 i).toInt64 * (f 22 4).toInt64)) = _; rw [h10, h7, nI_l (by omega), nI_l (by omega), lN_mul]), rfl⟩ ⟨trivial, Nat.le_refl _, Nat.le_refl _⟩
theorem c_keptFrom_22 {m : Nat} (hC : v_C f g 22 v) (hB : v_B v) (hm : m ≤ 9999) : x_V 25 d [.ref 22, .int (nI m)] (f, g, x_HR r t, dm, n) (.int (nI (d_kept v m))) (f, g, x_HR r t, dm, n) := by
  have h4 : f 23 1 = nI (v 4 0 0) := hC.1 4 0 0 ⟨rfl, rfl⟩
  have b4 : v 4 0 0 ≤ 50 := (hB.1 4 0 0 ⟨rfl, rfl⟩).2
  have bm : m * v 4 0 0 ≤ 9999 * 50 := Nat.mul_le_mul hm b4
  refine x_Ct_w (by decide) (Nat.le_of_ble_eq_true rfl) ok25 [] 2 ?_
  refine And.intro (x_ix_nI (j := 1) (by decide) (by decide)) ?_
  refine And.intro (by decide) ?_
  exact And.intro ⟨(by show some (Value.int ((nI m * f 23 1 + nI 99) / nI 100)) = _; rw [h4, pk_mul, nI_add, pk_div (by omega) (by decide) (by decide)]; rfl), rfl⟩ ⟨trivial, Nat.le_refl _, Nat.le_refl _⟩
theorem c_printFor_22 {p k m : Nat} (hC : v_C f g 22 v) (hB : v_B v) (hp : p < v 2 0 0) (hk : k < v 0 0 0) (hm : m ≤ 999) : x_Ct 18 (d + 1) [.ref 22, .int (nI p), .int (nI k), .int (nI m)] (f, g, x_HR r t, dm, n) (if 9999 < v 13 p k + m then (fun q h' => q = some (.int (-1)) ∧ h' = (f, g, x_HR r t, dm, n)) else x_PL f g 22 (x_HR r t) dm n (.int (nI (v 13 p k + m))) (d_pay v p k m)) := by
  have bK := v_B_K hB
  have bP := v_B_P hB
  have bG := v_B_G hB
  have o13 : v_ok v 13 p k := show p < v 2 0 0 ∧ k < v 0 0 0 from ⟨hp, hk⟩
  have o9 : v_ok v 9 k 0 := show k < v 0 0 0 ∧ 0 = 0 from ⟨hk, rfl⟩
  have h13 : f 29 (4 * p + k) = nI (v 13 p k) := hC.1 13 p k o13
  have h9 : f 25 k = nI (v 9 k 0) := hC.1 9 k 0 o9
  have b13 : v 13 p k ≤ 9999 := (hB.1 13 p k o13).2
  have b9 : v 9 k 0 ≤ 500 := (hB.1 9 k 0 o9).2
  refine x_Ct_w (by decide) (Nat.le_of_ble_eq_true rfl) ok18 [] 6 ?_
  refine Exists.intro _ (And.intro c_purse (And.intro (And.intro (Nat.zero_le _) (Nat.zero_le _)) (fun q h' hp => ?_)))
  obtain ⟨rfl, rfl⟩ := hp
  rw [x_pl4]
  refine And.intro (x_ix_nI (by omega) (by omega)) ?_
  rw [nI_clamp (by omega)]
  refine And.intro (fun c => ?_) (fun c => ?_)
  · have c : f 29 (4 * p + k) + nI m ≤ nI 9999 := c
    rw [h13, nI_add, nI_leI (by omega) (by omega)] at c
    rw [if_neg (by omega)]
    refine And.intro (x_ix_nI (by omega) (by omega)) ?_
    rw [nI_clamp (by omega)]
    refine And.intro (x_ix_nI (by omega) (by omega)) ?_
    rw [nI_clamp (by omega)]
    refine And.intro (x_ix_nI (by omega) (by omega)) ?_
    rw [nI_clamp (by omega)]
    refine And.intro (x_ix_nI (by omega) (by omega)) ?_
    rw [nI_clamp (by omega)]
    refine And.intro ?_ ⟨trivial, Nat.le_refl _, Nat.le_refl _⟩
    refine ⟨_, _, rfl, ?_, ?_, rfl, fun k2 hk2 _ => ⟨?_, ?_⟩⟩
    · show some (Value.int (x_up f 29 (4 * p + k) (f 29 (4 * p + k) + nI m) 29 (4 * p + k))) = _
      rw [x_up_s, h13, nI_add]
    · have e := v_C_16 (v_C_set hC bK bG o13 (x := v 13 p k + m) (by decide)) (v 16 0 0 + m * v 9 k 0)
      rw [← lN_add, ← lN_mul, ← nI_l (show m < 2 ^ 31 by omega), ← nI_l (show v 9 k 0 < 2 ^ 31 by omega), ← h9, ← hC.2.1, ← nI_add, ← h13] at e
      exact e
    · show x_up f 29 _ _ k2 = f k2
      rw [x_up_k (by omega)]
    · show x_up g 22 _ _ k2 = g k2
      rw [x_up_k (by omega)]
  · have c : ¬ f 29 (4 * p + k) + nI m ≤ nI 9999 := c
    rw [h13, nI_add, nI_leI (by omega) (by omega)] at c
    rw [if_pos (by omega)]
    exact And.intro ⟨rfl, rfl⟩ ⟨trivial, Nat.le_refl _, Nat.le_refl _⟩
theorem c_burnWhole_22 {p k m : Nat} (hC : v_C f g 22 v) (hB : v_B v) (hp : p < v 2 0 0) (hk : k < v 0 0 0) (hm : m ≤ 999) : x_Ct 28 (d + 1) [.ref 22, .int (nI p), .int (nI k), .int (nI m)] (f, g, x_HR r t, dm, n) (if v 13 p k < m then (fun q h' => q = some (.int (-1)) ∧ h' = (f, g, x_HR r t, dm, n)) else x_PL f g 22 (x_HR r t) dm n (.int (nI (v 13 p k - m))) (d_burn v p k m)) := by
  have bK := v_B_K hB
  have bP := v_B_P hB
  have bG := v_B_G hB
  have o13 : v_ok v 13 p k := show p < v 2 0 0 ∧ k < v 0 0 0 from ⟨hp, hk⟩
  have o9 : v_ok v 9 k 0 := show k < v 0 0 0 ∧ 0 = 0 from ⟨hk, rfl⟩
  have h13 : f 29 (4 * p + k) = nI (v 13 p k) := hC.1 13 p k o13
  have h9 : f 25 k = nI (v 9 k 0) := hC.1 9 k 0 o9
  have b13 : v 13 p k ≤ 9999 := (hB.1 13 p k o13).2
  have b9 : v 9 k 0 ≤ 500 := (hB.1 9 k 0 o9).2
  refine x_Ct_w (by decide) (Nat.le_of_ble_eq_true rfl) ok28 [] 6 ?_
  refine Exists.intro _ (And.intro c_purse (And.intro (And.intro (Nat.zero_le _) (Nat.zero_le _)) (fun q h' hp => ?_)))
  obtain ⟨rfl, rfl⟩ := hp
  rw [x_pl4]
  refine And.intro (x_ix_nI (by omega) (by omega)) ?_
  rw [nI_clamp (by omega)]
  refine And.intro (fun c => ?_) (fun c => ?_)
  · have c : nI m ≤ f 29 (4 * p + k) := c
    rw [h13, nI_leI (by omega) (by omega)] at c
    rw [if_neg (by omega)]
    refine And.intro (x_ix_nI (by omega) (by omega)) ?_
    rw [nI_clamp (by omega)]
    refine And.intro (x_ix_nI (by omega) (by omega)) ?_
    rw [nI_clamp (by omega)]
    refine And.intro (x_ix_nI (by omega) (by omega)) ?_
    rw [nI_clamp (by omega)]
    refine And.intro (x_ix_nI (by omega) (by omega)) ?_
    rw [nI_clamp (by omega)]
    refine And.intro ?_ ⟨trivial, Nat.le_refl _, Nat.le_refl _⟩
    refine ⟨_, _, rfl, ?_, ?_, rfl, fun k2 hk2 _ => ⟨?_, ?_⟩⟩
    · show some (Value.int (x_up f 29 (4 * p + k) (f 29 (4 * p + k) - nI m) 29 (4 * p + k))) = _
      rw [x_up_s, h13, pk_sub c]
    · have e := v_C_17 (v_C_set hC bK bG o13 (x := v 13 p k - m) (by decide)) (v 17 0 0 + m * v 9 k 0)
      rw [← lN_add, ← lN_mul, ← nI_l (show m < 2 ^ 31 by omega), ← nI_l (show v 9 k 0 < 2 ^ 31 by omega), ← h9, ← hC.2.2, ← pk_sub c, ← h13] at e
      exact e
    · show x_up f 29 _ _ k2 = f k2
      rw [x_up_k (by omega)]
    · show x_up g 22 _ _ k2 = g k2
      rw [x_up_k (by omega)]
  · have c : ¬ nI m ≤ f 29 (4 * p + k) := c
    rw [h13, nI_leI (by omega) (by omega)] at c
    rw [if_pos (by omega)]
    exact And.intro ⟨rfl, rfl⟩ ⟨trivial, Nat.le_refl _, Nat.le_refl _⟩
end C19
