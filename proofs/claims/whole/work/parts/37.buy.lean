/-! BUY, SELL and what can be PAID, on a view -/
def v_S (v : xV) (i m : Nat) : Nat := m * (v 10 i 0 * v 7 0 0)
def v_few (v : xV) (p s : Nat) : Nat := y_few (v_w v) (v 13 p) (v 0 0 0) 0 s
def v_vec (v : xV) (p s : Nat) : Nat → Nat := y_vec (v_w v) (v 13 p) (v 0 0 0) 0 s
def v_fewP (v : xV) (s : Nat) : Nat := y_few (v_w v) (fun _ => 999) (v 0 0 0) 0 s
def v_vecP (v : xV) (s : Nat) : Nat → Nat := y_vec (v_w v) (fun _ => 999) (v 0 0 0) 0 s
def v_cb (v : xV) (p i m : Nat) : Bool := decide (m ≤ v 11 i 0) && (decide (v 15 p i + m ≤ 9999) && (decide (v_S v i m ≤ 999) && decide (v_few v p (v_S v i m) < 1000000)))
def v_wb (v : xV) (p i m : Nat) : Nat := if v_cb v p i m = true then y_way (v_w v) (v 13 p) (v 0 0 0) (v_S v i m) else 2 ^ 60
def d_buy (v : xV) (p i m : Nat) : xV := d_tb (v_set v 17 0 0 (v 17 0 0 + v_S v i m)) p i m (v_vec v p (v_S v i m))
def s_buy (v : xV) (p i m : Nat) : Option (Int32 × xV) := if v_cb v p i m = true then some (nI (v_few v p (v_S v i m)), d_buy v p i m) else none
def v_rm (v : xV) (p : Nat) (c : Nat → Nat) : Bool := (List.range (v 0 0 0)).all (fun k => decide (v 13 p k + c k ≤ 9999))
def v_cs (v : xV) (p i m : Nat) : Bool := decide (m ≤ v 15 p i) && (decide (v 11 i 0 + m ≤ 9999) && (decide (v_S v i m ≤ 999) && (decide (v_fewP v (v_S v i m) < 1000000) && v_rm v p (v_vecP v (v_S v i m)))))
def d_sell (v : xV) (p i m : Nat) : xV := d_ts (v_set v 16 0 0 (v 16 0 0 + v_S v i m)) p i m (v_vecP v (v_S v i m))
def s_sell (v : xV) (p i m : Nat) : Option (Int32 × xV) := if v_cs v p i m = true then some (nI (v_fewP v (v_S v i m)), d_sell v p i m) else none
def sp_buy (v : xV) (x y z : Int32) : xS := x_sq 7 ((x_ixb x (v 2 0 0) && x_ixb y (v 1 0 0)) && x_wi z 1 999) (s_buy v (x_c x) (x_c y) (x_c z)) v
def sp_sell (v : xV) (x y z : Int32) : xS := x_sq 7 ((x_ixb x (v 2 0 0) && x_ixb y (v 1 0 0)) && x_wi z 1 999) (s_sell v (x_c x) (x_c y) (x_c z)) v
def sp_fewest (v : xV) (x y : Int32) : xS := x_sq 6 (x_ixb x (v 2 0 0) && x_wi y 0 999) (if v_few v (x_c x) (x_c y) < 1000000 then some (nI (v_few v (x_c x) (x_c y)), v) else none) v
def sp_payWith (v : xV) (x y z : Int32) : xS := x_sq 6 ((x_ixb x (v 2 0 0) && x_ixb z (v 0 0 0)) && x_wi y 0 999) (if v_few v (x_c x) (x_c y) < 1000000 then some (nI (v_vec v (x_c x) (x_c y) (x_c z)), v) else none) v
def sp_leastSheets (v : xV) (x : Int32) : xS := x_sq 6 (x_wi x 0 999) (if v_fewP v (x_c x) < 1000000 then some (nI (v_fewP v (x_c x)), v) else none) v
def v_cnt (v : xV) (p : Nat) : Nat → Nat
  | 0 => 0
  | s + 1 => v_cnt v p s + (if v_few v p (s + 1) < 1000000 then 1 else 0)
def sp_payable (v : xV) (x : Int32) : xS := x_sr (x_ixb x (v 2 0 0)) (nI (v_cnt v (x_c x) 999)) v
def v_fnot (v : xV) (p : Nat) : Nat → Nat → Option (Int32 × xV)
  | 0, _ => none
  | m + 1, s => if v_few v p s < 1000000 then v_fnot v p m (s + 1) else some (nI s, v)
def sp_firstNot (v : xV) (x : Int32) : xS := x_sq 6 (x_ixb x (v 2 0 0)) (v_fnot v (x_c x) (min 999 (v_ws v 13 (x_c x) (v 0 0 0))) 1) v
def v_can (v : xV) (p i m : Nat) : Bool := decide (v_S v i m ≤ 999) && decide (v_few v p (v_S v i m) < 1000000)
def v_most (v : xV) (p i : Nat) : Nat := min (min 999 (v 11 i 0)) (9999 - v 15 p i)
def sp_couldBuy (v : xV) (x y : Int32) : xS := x_sr (x_ixb x (v 2 0 0) && x_ixb y (v 1 0 0)) (nI (y_top (v_can v (x_c x) (x_c y)) (v_most v (x_c x) (x_c y)))) v
theorem v_cnt_le (v : xV) (p : Nat) : ∀ s, v_cnt v p s ≤ s
  | 0 => Nat.le_refl _
  | s + 1 => by
    have := v_cnt_le v p s
    show v_cnt v p s + (if _ then 1 else 0) ≤ s + 1
    split <;> omega
theorem x_lg_eq {x y : Int64} : lg_cmp x y = 0 ↔ x = y := by
  unfold lg_cmp
  by_cases h1 : x > y
  · rw [if_pos h1]
    exact ⟨fun h => absurd h (by decide), fun h => absurd h1 (h ▸ Int64.lt_irrefl)⟩
  · rw [if_neg h1]
    by_cases h2 : x = y
    · rw [if_pos h2]
      exact ⟨fun _ => h2, fun _ => rfl⟩
    · rw [if_neg h2]
      exact ⟨fun h => absurd h (by decide), fun h => absurd h h2⟩
theorem y_way_lt {w a : Nat → Nat} {K s : Nat} (hw : ∀ i, i < K → 1 ≤ w i) (hK : K ≤ 4) (hs : s ≤ 999) : y_way w a K s < 2 ^ 60 ↔ y_few w a K 0 s < 1000000 := by
  by_cases hl : y_few w a K 0 s < 1000000
  · exact ⟨fun _ => hl, fun _ => (y_way_ok hw hK hs hl).1⟩
  · rw [y_way_no hl]
    exact ⟨fun h => absurd h (by omega), fun h => absurd h hl⟩
theorem y_way_le {w a : Nat → Nat} {K s : Nat} (hw : ∀ i, i < K → 1 ≤ w i) (hK : K ≤ 4) (hs : s ≤ 999) : y_way w a K s ≤ 2 ^ 60 := by
  by_cases hl : y_few w a K 0 s < 1000000
  · exact Nat.le_of_lt (y_way_ok hw hK hs hl).1
  · rw [y_way_no hl]
    exact Nat.le_refl _
/-- what a deed may leave -/
def x_PO (f : Nat → Nat → Int32) (g : Nat → Nat → Int64) (L : Nat) (ρ : Nat → Nat → Option Nat) (dm : List Nat) (n : Nat) (v : xV) (o : Option (Int32 × xV)) : Option Value → xH → Prop := fun q h' => ∃ F G, h' = (F, G, ρ, dm, n) ∧ q = some (.int (x_oW (-1) o)) ∧ x_LC f g L F G (x_oV v o)
theorem v_wb_lt {v : xV} (hB : v_B v) {p i m : Nat} : v_wb v p i m ≤ 2 ^ 60 := by
  unfold v_wb
  split
  · rename_i h
    simp only [v_cb, Bool.and_eq_true, decide_eq_true_eq] at h
    exact y_way_le (v_w_1 hB) (v_B_K hB) h.2.2.1
  · exact Nat.le_refl _
theorem v_wb_no {v : xV} (hB : v_B v) {p i m : Nat} : v_wb v p i m = 2 ^ 60 ↔ v_cb v p i m = false := by
  unfold v_wb
  by_cases hb : v_cb v p i m = true
  · rw [if_pos hb]
    have h := hb
    simp only [v_cb, Bool.and_eq_true, decide_eq_true_eq] at h
    have := (y_way_ok (v_w_1 hB) (v_B_K hB) h.2.2.1 h.2.2.2).1
    exact ⟨fun e => absurd e (by omega), fun e => absurd hb (by rw [e]; decide)⟩
  · rw [if_neg hb]
    exact ⟨fun _ => Bool.eq_false_iff.mpr hb, fun _ => rfl⟩
section C37
variable {f : Nat → Nat → Int32} {g : Nat → Nat → Int64} {r t : Nat} {ρ : Nat → Nat → Option Nat} {dm : List Nat} {n d N : Nat} {v : xV} {h : xH}
theorem x_LC_G {L : Nat} (hL : L < 90) {G : Nat → Nat → Int64} (hG : ∀ k, k ≠ 100 → G k = g k) (hC : v_C f g L v) : x_LC f g L f G v :=
  ⟨v_C_fr hC (fun _ _ _ => rfl) (hG L (by omega)), hG _ (by omega), fun k _ h2 => ⟨rfl, hG k h2⟩⟩
theorem x_PC_done {L : Nat} (hL : 0 < L) {F : Nat → Nat → Int32} {G : Nat → Nat → Int64} {o : Option (Int32 × xV)} (ho : ∀ S, o = some S → ¬ S.1 = -1) (hF : x_LC f g L F G (x_oV v o)) : x_PC f g L ρ dm n (x_sq 7 true o v) (some (.int (x_oW (-1) o))) (x_up F 0 0 (if x_oW (-1) o = -1 then 7 else 0), G, ρ, dm, n) := by
  cases o with
  | none =>
    rw [show (if x_oW (-1) none = -1 then (7 : Int32) else 0) = 7 from if_pos rfl]
    exact x_PC_L hL hF
  | some S =>
    rw [show (if x_oW (-1) (some S) = -1 then (7 : Int32) else 0) = 0 from if_neg (ho S rfl)]
    exact x_PC_L hL hF
theorem s_buy_ne {p i m : Nat} : ∀ S, s_buy v p i m = some S → ¬ S.1 = -1 := by
  intro S hS
  unfold s_buy at hS
  split at hS
  · cases hS
    have : v_few v p (v_S v i m) ≤ 1000000 := y_few_le _ _ _ _ _
    exact x_nIm (by omega)
  · cases hS
theorem s_sell_ne {p i m : Nat} : ∀ S, s_sell v p i m = some S → ¬ S.1 = -1 := by
  intro S hS
  unfold s_sell at hS
  split at hS
  · cases hS
    have : v_fewP v (v_S v i m) ≤ 1000000 := y_few_le _ _ _ _ _
    exact x_nIm (by omega)
  · cases hS
theorem v_S_lt (hB : v_B v) {i m : Nat} (hi : i < v 1 0 0) (hm : m ≤ 9999) : v_S v i m < 2 ^ 60 := by
  have b10 : v 10 i 0 ≤ 99 := (hB.1 10 i 0 (show i < v 1 0 0 ∧ 0 = 0 from ⟨hi, rfl⟩)).2
  have b7 : v 7 0 0 ≤ 21000000 := (hB.1 7 0 0 ⟨rfl, rfl⟩).2
  have h1 : v 10 i 0 * v 7 0 0 ≤ 99 * 21000000 := Nat.mul_le_mul b10 b7
  have h2 : m * (v 10 i 0 * v 7 0 0) ≤ 9999 * (99 * 21000000) := Nat.mul_le_mul hm h1
  unfold v_S
  omega
theorem v_S_l {i m : Nat} (hm : m ≤ 9999) : (nI m).toInt64 * lN (v 10 i 0 * v 7 0 0) = lN (v_S v i m) := by
  rw [nI_l (by omega), lN_mul]
  rfl
theorem c_wayToBuy_12 {p i m : Nat} (hC : v_C f g 12 v) (hB : v_B v) (hp : p < v 2 0 0) (hi : i < v 1 0 0) (hm : m ≤ 999) : x_Ct 19 (d + 3) [.ref 12, .ref 99, .int (nI p), .int (nI i), .int (nI m)] (f, g, x_HR r t, dm, n) (fun q h' => q = some (.long (lN (v_wb v p i m))) ∧ ∃ G, h' = (f, G, x_HR r t, dm, n) ∧ ∀ k, k ≠ 100 → G k = g k) := by
  have bK := v_B_K hB
  have bG := v_B_G hB
  have bP := v_B_P hB
  have o11 : v_ok v 11 i 0 := show i < v 1 0 0 ∧ 0 = 0 from ⟨by omega, rfl⟩
  have h11 : f 17 i = nI (v 11 i 0) := hC.1 11 i 0 o11
  have b11 : v 11 i 0 ≤ 9999 := (hB.1 11 i 0 o11).2
  have o15 : v_ok v 15 p i := show 15 = 15 ∧ p < v 2 0 0 ∧ i < v 1 0 0 from ⟨rfl, by omega, by omega⟩
  have h15 : f 21 (5 * p + i) = nI (v 15 p i) := hC.1 15 p i o15
  have b15 : v 15 p i ≤ 9999 := (hB.1 15 p i o15).2
  have hS := v_S_lt hB hi (show m ≤ 9999 by omega)
  have eS := v_S_l (v := v) (i := i) (show m ≤ 9999 by omega)
  refine x_Ct_w (by decide) (Nat.le_of_ble_eq_true rfl) ok19 [] 8 ?_
  refine And.intro (x_ix_nI (by omega) (by omega)) ?_
  rw [nI_clamp (by omega)]
  refine And.intro (fun c => ?_) (fun c => ?_)
  · have c : f 17 i < nI m := c
    rw [h11, nI_ltI (by omega) (by omega)] at c
    refine And.intro ⟨?_, g, rfl, fun _ _ => rfl⟩ ⟨trivial, Nat.le_refl _, Nat.le_refl _⟩
    rw [(v_wb_no hB).mpr (by simp only [v_cb, decide_eq_false (show ¬ m ≤ v 11 i 0 by omega), Bool.false_and])]
    rfl
  · have c : ¬ f 17 i < nI m := c
    rw [h11, nI_ltI (by omega) (by omega)] at c
    refine Exists.intro _ (And.intro c_chest (And.intro (And.intro (Nat.zero_le _) (Nat.zero_le _)) (fun q h' hpo => ?_)))
    obtain ⟨rfl, rfl⟩ := hpo
    rw [x_pl5]
    refine And.intro (x_ix_nI (by omega) (by omega)) ?_
    rw [nI_clamp (by omega)]
    refine And.intro (fun c2 => ?_) (fun c2 => ?_)
    · have c2 : f 21 (5 * p + i) + nI m ≤ nI 9999 := c2
      rw [h15, nI_add, nI_leI (by omega) (by omega)] at c2
      refine Exists.intro _ (And.intro (c_priceOf_12 hC hB hi) (And.intro (And.intro (Nat.zero_le _) (Nat.zero_le _)) (fun q h' hpo => ?_)))
      obtain ⟨rfl, rfl⟩ := hpo
      refine And.intro (fun c3 => ?_) (fun c3 => ?_)
      · have c3 : lg_cmp ((nI m).toInt64 * lN (v 10 i 0 * v 7 0 0)) (lN 999) ≤ 0 := c3
        rw [← Int32.not_lt, x_lg_gt, eS, pk_lLT (by decide) (by omega)] at c3
        have cw := c_wayFromPurse_12 (d := d) (r := r) (t := t) (dm := dm) (n := n) (s := v_S v i m) hC hB hp (by omega)
        rw [← lN_i (v_S v i m), ← eS] at cw
        refine Exists.intro _ (And.intro cw (And.intro (And.intro (Nat.zero_le _) (Nat.zero_le _)) (fun q h' hpo => ?_)))
        obtain ⟨rfl, G, rfl, hG⟩ := hpo
        refine And.intro ⟨?_, G, rfl, hG⟩ ⟨trivial, Nat.le_refl _, Nat.le_refl _⟩
        have ew : v_wb v p i m = y_way (v_w v) (v 13 p) (v 0 0 0) (v_S v i m) := by
          unfold v_wb
          by_cases hl : v_few v p (v_S v i m) < 1000000
          · rw [if_pos]
            simp only [v_cb, Bool.and_eq_true, decide_eq_true_eq]
            exact ⟨by omega, c2, by omega, hl⟩
          · rw [y_way_no hl, if_neg]
            simp only [v_cb, Bool.and_eq_true, decide_eq_true_eq]
            exact fun q => hl q.2.2.2
        rw [ew]
      · have c3 : ¬ lg_cmp ((nI m).toInt64 * lN (v 10 i 0 * v 7 0 0)) (lN 999) ≤ 0 := c3
        rw [← Int32.not_lt, x_lg_gt, eS, pk_lLT (by decide) (by omega)] at c3
        refine And.intro ⟨?_, g, rfl, fun _ _ => rfl⟩ ⟨trivial, Nat.le_refl _, Nat.le_refl _⟩
        rw [(v_wb_no hB).mpr (by simp only [v_cb, decide_eq_false (show ¬ v_S v i m ≤ 999 by omega), Bool.false_and, Bool.and_false])]
        rfl
    · have c2 : ¬ f 21 (5 * p + i) + nI m ≤ nI 9999 := c2
      rw [h15, nI_add, nI_leI (by omega) (by omega)] at c2
      refine And.intro ⟨?_, g, rfl, fun _ _ => rfl⟩ ⟨trivial, Nat.le_refl _, Nat.le_refl _⟩
      rw [(v_wb_no hB).mpr (by simp only [v_cb, decide_eq_false (show ¬ v 15 p i + m ≤ 9999 by omega), Bool.false_and, Bool.and_false])]
      rfl
theorem c_purchase_12 {p i m : Nat} (hC : v_C f g 12 v) (hBn : v_Bn N v) (hN : N + 1000 < 2 ^ 60) (hp : p < v 2 0 0) (hi : i < v 1 0 0) (hm1 : 1 ≤ m) (hm : m ≤ 999) : x_Ct 20 (d + 3) [.ref 12, .int (nI p), .int (nI i), .int (nI m), .long (lN (v_wb v p i m))] (f, g, x_HR r t, dm, n) (x_PO f g 12 (x_HR r t) dm n v (s_buy v p i m)) := by
  have hB := v_Bn_B hBn (by omega)
  have bK := v_B_K hB
  have bG := v_B_G hB
  have bP := v_B_P hB
  have eS := v_S_l (v := v) (i := i) (show m ≤ 9999 by omega)
  have hwb := v_wb_lt hB (p := p) (i := i) (m := m)
  refine x_Ct_w (by decide) (Nat.le_of_ble_eq_true rfl) ok20 [] 6 ?_
  cases hcb : v_cb v p i m with
  | false =>
    have hno := (v_wb_no hB).mpr hcb
    rw [show s_buy v p i m = none from if_neg (by rw [hcb]; decide)]
    refine And.intro (fun c => ?_) (fun c => ?_)
    · have c : ¬ lg_cmp (lN (v_wb v p i m)) (lN 1152921504606846976) = 0 := c
      rw [x_lg_eq, pk_lEQ (by omega) (by decide)] at c
      exact absurd hno c
    · refine And.intro ?_ ⟨trivial, Nat.le_refl _, Nat.le_refl _⟩
      exact ⟨f, g, rfl, rfl, x_LC_0 hC⟩
  | true =>
    have ew : v_wb v p i m = y_way (v_w v) (v 13 p) (v 0 0 0) (v_S v i m) := if_pos hcb
    rw [show s_buy v p i m = some (nI (v_few v p (v_S v i m)), d_buy v p i m) from if_pos hcb]
    have hcb' := hcb
    simp only [v_cb, Bool.and_eq_true, decide_eq_true_eq] at hcb'
    obtain ⟨b1, b2, b3, b4⟩ := hcb'
    obtain ⟨y1, y2, y3, y4, y5⟩ := y_way_ok (v_w_1 hB) bK b3 b4
    refine And.intro (fun c => ?_) (fun c => ?_)
    · refine Exists.intro _ (And.intro (c_priceOf_12 hC hB hi) (And.intro (And.intro (Nat.zero_le _) (Nat.zero_le _)) (fun q h' hpo => ?_)))
      obtain ⟨rfl, rfl⟩ := hpo
      have eg : g 12 7 + (nI m).toInt64 * lN (v 10 i 0 * v 7 0 0) = lN (v 17 0 0 + v_S v i m) := by rw [eS, hC.2.2, lN_add]
      have hB17 := v_Bn_17 hBn (x := v 17 0 0 + v_S v i m) (M := N + 1000) (by omega) (by have := hBn.2.2.2; omega)
      have tr := c_tradeB_12 (d := d) (r := r) (t := t) (dm := dm) (n := n) (p := p) (i := i) (m := m) (w := v_wb v p i m) (c := v_vec v p (v_S v i m)) (v_C_17 hC (v 17 0 0 + v_S v i m)) (v_Bn_B hB17 (by omega)) hp hi hm1 b1 b2 (by omega) (fun k hk => by rw [ew]; exact ⟨y3 k hk, y4 k hk⟩)
      rw [← eg] at tr
      refine Exists.intro _ (And.intro tr (And.intro (And.intro (Nat.zero_le _) (Nat.zero_le _)) (fun q h' hpo => ?_)))
      obtain ⟨F, rfl, rfl, hF⟩ := hpo
      have cs := c_sheetsIn (d := d + 2) (h := (F, x_up g 12 7 (g 12 7 + (nI m).toInt64 * lN (v 10 i 0 * v 7 0 0)), x_HR r t, dm, n)) (w := v_wb v p i m) (by omega)
      refine Exists.intro _ (And.intro cs (And.intro (And.intro (Nat.zero_le _) (Nat.zero_le _)) (fun q h' hpo => ?_)))
      obtain ⟨rfl, rfl⟩ := hpo
      refine And.intro ?_ ⟨trivial, Nat.le_refl _, Nat.le_refl _⟩
      refine ⟨F, _, rfl, ?_, ?_⟩
      · rw [ew, y2]
        rfl
      · have e := x_LC_17 (x_LC_0 hC) (v 17 0 0 + v_S v i m)
        rw [← eg] at e
        exact x_LC_tr e hF
    · have c : lg_cmp (lN (v_wb v p i m)) (lN 1152921504606846976) = 0 := c
      rw [x_lg_eq, pk_lEQ (by omega) (by decide), ew] at c
      omega
theorem c_takeGoods_12 {p i m : Nat} (hC : v_C f g 12 v) (hBn : v_Bn N v) (hN : N + 1000 < 2 ^ 60) (hp : p < v 2 0 0) (hi : i < v 1 0 0) (hm1 : 1 ≤ m) (hm : m ≤ 999) : x_Ct 22 (d + 3) [.ref 12, .ref 99, .int (nI p), .int (nI i), .int (nI m)] (f, g, x_HR r t, dm, n) (x_PO f g 12 (x_HR r t) dm n v (s_sell v p i m)) := by
  have hB := v_Bn_B hBn (by omega)
  have bK := v_B_K hB
  have bG := v_B_G hB
  have bP := v_B_P hB
  have o11 : v_ok v 11 i 0 := show i < v 1 0 0 ∧ 0 = 0 from ⟨by omega, rfl⟩
  have h11 : f 17 i = nI (v 11 i 0) := hC.1 11 i 0 o11
  have b11 : v 11 i 0 ≤ 9999 := (hB.1 11 i 0 o11).2
  have o15 : v_ok v 15 p i := show 15 = 15 ∧ p < v 2 0 0 ∧ i < v 1 0 0 from ⟨rfl, by omega, by omega⟩
  have h15 : f 21 (5 * p + i) = nI (v 15 p i) := hC.1 15 p i o15
  have b15 : v 15 p i ≤ 9999 := (hB.1 15 p i o15).2
  have hS := v_S_lt hB hi (show m ≤ 9999 by omega)
  have eS := v_S_l (v := v) (i := i) (show m ≤ 9999 by omega)
  have no : ∀ G, (∀ k, k ≠ 100 → G k = g k) → v_cs v p i m = false → x_PO f g 12 (x_HR r t) dm n v (s_sell v p i m) (some (.int (-1))) (f, G, x_HR r t, dm, n) := by
    intro G hG hcs
    rw [show s_sell v p i m = none from if_neg (by rw [hcs]; decide)]
    exact ⟨f, G, rfl, rfl, x_LC_G (by decide) hG hC⟩
  refine x_Ct_w (by decide) (Nat.le_of_ble_eq_true rfl) ok22 [] 10 ?_
  refine Exists.intro _ (And.intro (c_priceOf_12 hC hB hi) (And.intro (And.intro (Nat.zero_le _) (Nat.zero_le _)) (fun q h' hpo => ?_)))
  obtain ⟨rfl, rfl⟩ := hpo
  refine Exists.intro _ (And.intro c_chest (And.intro (And.intro (Nat.zero_le _) (Nat.zero_le _)) (fun q h' hpo => ?_)))
  obtain ⟨rfl, rfl⟩ := hpo
  rw [x_pl5]
  refine And.intro (x_ix_nI (by omega) (by omega)) ?_
  rw [nI_clamp (by omega)]
  refine And.intro (fun c => ?_) (fun c => ?_)
  · have c : f 21 (5 * p + i) < nI m := c
    rw [h15, nI_ltI (by omega) (by omega)] at c
    refine And.intro ?_ ⟨trivial, Nat.le_refl _, Nat.le_refl _⟩
    exact no g (fun _ _ => rfl) (by simp only [v_cs, decide_eq_false (show ¬ m ≤ v 15 p i by omega), Bool.false_and])
  · have c : ¬ f 21 (5 * p + i) < nI m := c
    rw [h15, nI_ltI (by omega) (by omega)] at c
    refine And.intro (x_ix_nI (by omega) (by omega)) ?_
    rw [nI_clamp (by omega)]
    refine And.intro (fun c2 => ?_) (fun c2 => ?_)
    · have c2 : nI 9999 < f 17 i + nI m := c2
      rw [h11, nI_add, nI_ltI (by omega) (by omega)] at c2
      refine And.intro ?_ ⟨trivial, Nat.le_refl _, Nat.le_refl _⟩
      exact no g (fun _ _ => rfl) (by simp only [v_cs, decide_eq_false (show ¬ v 11 i 0 + m ≤ 9999 by omega), Bool.false_and, Bool.and_false])
    · have c2 : ¬ nI 9999 < f 17 i + nI m := c2
      rw [h11, nI_add, nI_ltI (by omega) (by omega)] at c2
      refine And.intro (fun c3 => ?_) (fun c3 => ?_)
      · have c3 : lg_cmp ((nI m).toInt64 * lN (v 10 i 0 * v 7 0 0)) (lN 999) ≤ 0 := c3
        rw [← Int32.not_lt, x_lg_gt, eS, pk_lLT (by decide) (by omega)] at c3
        have cw := c_wayOfPrint_12 (d := d + 1) (r := r) (t := t) (dm := dm) (n := n) (s := v_S v i m) hC hB (by omega)
        rw [← lN_i (v_S v i m), ← eS] at cw
        refine Exists.intro _ (And.intro cw (And.intro (And.intro (Nat.zero_le _) (Nat.zero_le _)) (fun q h' hpo => ?_)))
        obtain ⟨rfl, G, rfl, hG⟩ := hpo
        have hCG : v_C f G 12 v := v_C_fr hC (fun _ _ _ => rfl) (hG _ (by decide))
        have hwl := y_way_le (a := fun _ => 999) (s := v_S v i m) (v_w_1 hB) bK (by omega)
        by_cases hl : v_fewP v (v_S v i m) < 1000000
        · obtain ⟨y1, y2, y3, y4, y5⟩ := y_way_ok (v_w_1 hB) bK (show v_S v i m ≤ 999 by omega) hl
          refine And.intro (fun c4 => ?_) (fun c4 => ?_)
          · have c4 : lg_cmp (lN (y_way (v_w v) (fun _ => 999) (v 0 0 0) (v_S v i m))) (lN 1152921504606846976) = 0 := c4
            rw [x_lg_eq, pk_lEQ (by omega) (by decide)] at c4
            omega
          · refine Exists.intro _ (And.intro (c_hasRoomFor_12 (d := d) (c := v_vecP v (v_S v i m)) hCG hB hp (show y_way (v_w v) (fun _ => 999) (v 0 0 0) (v_S v i m) < 2 ^ 61 by omega) (fun k hk => ⟨y3 k hk, y5 k hk⟩)) (And.intro (And.intro (Nat.zero_le _) (Nat.zero_le _)) (fun q h' hpo => ?_)))
            obtain ⟨rfl, ⟨rfl, hroom⟩ | ⟨rfl, k0, hk0, hroom⟩⟩ := hpo
            · have hcs : v_cs v p i m = true := by
                simp only [v_cs, Bool.and_eq_true, decide_eq_true_eq, v_rm, List.all_eq_true, List.mem_range]
                exact ⟨by omega, by omega, by omega, hl, hroom⟩
              rw [show s_sell v p i m = some (nI (v_fewP v (v_S v i m)), d_sell v p i m) from if_pos hcs]
              refine And.intro (fun _ => ?_) (fun c => absurd c (by decide))
              have eg : G 12 6 + (nI m).toInt64 * lN (v 10 i 0 * v 7 0 0) = lN (v 16 0 0 + v_S v i m) := by rw [eS, hCG.2.1, lN_add]
              have hB16 := v_Bn_16 hBn (x := v 16 0 0 + v_S v i m) (M := N + 1000) (by omega) (by have := hBn.2.2.1; omega)
              have tr := c_tradeS_12 (d := d) (r := r) (t := t) (dm := dm) (n := n) (p := p) (i := i) (m := m) (w := y_way (v_w v) (fun _ => 999) (v 0 0 0) (v_S v i m)) (c := v_vecP v (v_S v i m)) (v_C_16 hCG (v 16 0 0 + v_S v i m)) (v_Bn_B hB16 (by omega)) hp hi hm1 (show m ≤ v 15 p i by omega) (show v 11 i 0 + m ≤ 9999 by omega) (by omega) (fun k hk => ⟨y3 k hk, hroom k hk⟩)
              rw [← eg] at tr
              refine Exists.intro _ (And.intro tr (And.intro (And.intro (Nat.zero_le _) (Nat.zero_le _)) (fun q h' hpo => ?_)))
              obtain ⟨F, rfl, rfl, hF⟩ := hpo
              refine Exists.intro _ (And.intro (c_sheetsIn (d := d + 2) (w := y_way (v_w v) (fun _ => 999) (v 0 0 0) (v_S v i m)) (by omega)) (And.intro (And.intro (Nat.zero_le _) (Nat.zero_le _)) (fun q h' hpo => ?_)))
              obtain ⟨rfl, rfl⟩ := hpo
              refine And.intro ?_ ⟨trivial, Nat.le_refl _, Nat.le_refl _⟩
              refine ⟨F, _, rfl, ?_, ?_⟩
              · rw [y2]
                rfl
              · have e := x_LC_16 (x_LC_0 hCG) (v 16 0 0 + v_S v i m)
                rw [← eg] at e
                exact x_LC_tr (x_LC_G (by decide) hG hC) (x_LC_tr e hF)
            · refine And.intro (fun c => absurd rfl c) (fun _ => ?_)
              refine And.intro ?_ ⟨trivial, Nat.le_refl _, Nat.le_refl _⟩
              refine no G hG ?_
              have : v_rm v p (v_vecP v (v_S v i m)) = false := by
                rw [Bool.eq_false_iff]
                intro hq
                simp only [v_rm, List.all_eq_true, List.mem_range, decide_eq_true_eq] at hq
                have := hq k0 hk0
                omega
              simp only [v_cs, this, Bool.and_false]
        · have hno : y_way (v_w v) (fun _ => 999) (v 0 0 0) (v_S v i m) = 2 ^ 60 := y_way_no hl
          refine And.intro (fun c4 => ?_) (fun c4 => ?_)
          · refine And.intro ?_ ⟨trivial, Nat.le_refl _, Nat.le_refl _⟩
            exact no G hG (by simp only [v_cs, decide_eq_false hl, Bool.false_and, Bool.and_false])
          · have c4 : ¬ lg_cmp (lN (y_way (v_w v) (fun _ => 999) (v 0 0 0) (v_S v i m))) (lN 1152921504606846976) = 0 := c4
            rw [x_lg_eq, pk_lEQ (by omega) (by decide)] at c4
            exact absurd hno c4
      · have c3 : ¬ lg_cmp ((nI m).toInt64 * lN (v 10 i 0 * v 7 0 0)) (lN 999) ≤ 0 := c3
        rw [← Int32.not_lt, x_lg_gt, eS, pk_lLT (by decide) (by omega)] at c3
        refine And.intro ?_ ⟨trivial, Nat.le_refl _, Nat.le_refl _⟩
        exact no g (fun _ _ => rfl) (by simp only [v_cs, decide_eq_false (show ¬ v_S v i m ≤ 999 by omega), Bool.false_and, Bool.and_false])
theorem c_wayToBuy_22 {p i m : Nat} (hC : v_C f g 22 v) (hB : v_B v) (hp : p < v 2 0 0) (hi : i < v 1 0 0) (hm : m ≤ 999) : x_Ct 19 (d + 3) [.ref 22, .ref 99, .int (nI p), .int (nI i), .int (nI m)] (f, g, x_HR r t, dm, n) (fun q h' => q = some (.long (lN (v_wb v p i m))) ∧ ∃ G, h' = (f, G, x_HR r t, dm, n) ∧ ∀ k, k ≠ 100 → G k = g k) := by
  have bK := v_B_K hB
  have bG := v_B_G hB
  have bP := v_B_P hB
  have o11 : v_ok v 11 i 0 := show i < v 1 0 0 ∧ 0 = 0 from ⟨by omega, rfl⟩
  have h11 : f 27 i = nI (v 11 i 0) := hC.1 11 i 0 o11
  have b11 : v 11 i 0 ≤ 9999 := (hB.1 11 i 0 o11).2
  have o15 : v_ok v 15 p i := show 15 = 15 ∧ p < v 2 0 0 ∧ i < v 1 0 0 from ⟨rfl, by omega, by omega⟩
  have h15 : f 31 (5 * p + i) = nI (v 15 p i) := hC.1 15 p i o15
  have b15 : v 15 p i ≤ 9999 := (hB.1 15 p i o15).2
  have hS := v_S_lt hB hi (show m ≤ 9999 by omega)
  have eS := v_S_l (v := v) (i := i) (show m ≤ 9999 by omega)
  refine x_Ct_w (by decide) (Nat.le_of_ble_eq_true rfl) ok19 [] 8 ?_
  refine And.intro (x_ix_nI (by omega) (by omega)) ?_
  rw [nI_clamp (by omega)]
  refine And.intro (fun c => ?_) (fun c => ?_)
  · have c : f 27 i < nI m := c
    rw [h11, nI_ltI (by omega) (by omega)] at c
    refine And.intro ⟨?_, g, rfl, fun _ _ => rfl⟩ ⟨trivial, Nat.le_refl _, Nat.le_refl _⟩
    rw [(v_wb_no hB).mpr (by simp only [v_cb, decide_eq_false (show ¬ m ≤ v 11 i 0 by omega), Bool.false_and])]
    rfl
  · have c : ¬ f 27 i < nI m := c
    rw [h11, nI_ltI (by omega) (by omega)] at c
    refine Exists.intro _ (And.intro c_chest (And.intro (And.intro (Nat.zero_le _) (Nat.zero_le _)) (fun q h' hpo => ?_)))
    obtain ⟨rfl, rfl⟩ := hpo
    rw [x_pl5]
    refine And.intro (x_ix_nI (by omega) (by omega)) ?_
    rw [nI_clamp (by omega)]
    refine And.intro (fun c2 => ?_) (fun c2 => ?_)
    · have c2 : f 31 (5 * p + i) + nI m ≤ nI 9999 := c2
      rw [h15, nI_add, nI_leI (by omega) (by omega)] at c2
      refine Exists.intro _ (And.intro (c_priceOf_22 hC hB hi) (And.intro (And.intro (Nat.zero_le _) (Nat.zero_le _)) (fun q h' hpo => ?_)))
      obtain ⟨rfl, rfl⟩ := hpo
      refine And.intro (fun c3 => ?_) (fun c3 => ?_)
      · have c3 : lg_cmp ((nI m).toInt64 * lN (v 10 i 0 * v 7 0 0)) (lN 999) ≤ 0 := c3
        rw [← Int32.not_lt, x_lg_gt, eS, pk_lLT (by decide) (by omega)] at c3
        have cw := c_wayFromPurse_22 (d := d) (r := r) (t := t) (dm := dm) (n := n) (s := v_S v i m) hC hB hp (by omega)
        rw [← lN_i (v_S v i m), ← eS] at cw
        refine Exists.intro _ (And.intro cw (And.intro (And.intro (Nat.zero_le _) (Nat.zero_le _)) (fun q h' hpo => ?_)))
        obtain ⟨rfl, G, rfl, hG⟩ := hpo
        refine And.intro ⟨?_, G, rfl, hG⟩ ⟨trivial, Nat.le_refl _, Nat.le_refl _⟩
        have ew : v_wb v p i m = y_way (v_w v) (v 13 p) (v 0 0 0) (v_S v i m) := by
          unfold v_wb
          by_cases hl : v_few v p (v_S v i m) < 1000000
          · rw [if_pos]
            simp only [v_cb, Bool.and_eq_true, decide_eq_true_eq]
            exact ⟨by omega, c2, by omega, hl⟩
          · rw [y_way_no hl, if_neg]
            simp only [v_cb, Bool.and_eq_true, decide_eq_true_eq]
            exact fun q => hl q.2.2.2
        rw [ew]
      · have c3 : ¬ lg_cmp ((nI m).toInt64 * lN (v 10 i 0 * v 7 0 0)) (lN 999) ≤ 0 := c3
        rw [← Int32.not_lt, x_lg_gt, eS, pk_lLT (by decide) (by omega)] at c3
        refine And.intro ⟨?_, g, rfl, fun _ _ => rfl⟩ ⟨trivial, Nat.le_refl _, Nat.le_refl _⟩
        rw [(v_wb_no hB).mpr (by simp only [v_cb, decide_eq_false (show ¬ v_S v i m ≤ 999 by omega), Bool.false_and, Bool.and_false])]
        rfl
    · have c2 : ¬ f 31 (5 * p + i) + nI m ≤ nI 9999 := c2
      rw [h15, nI_add, nI_leI (by omega) (by omega)] at c2
      refine And.intro ⟨?_, g, rfl, fun _ _ => rfl⟩ ⟨trivial, Nat.le_refl _, Nat.le_refl _⟩
      rw [(v_wb_no hB).mpr (by simp only [v_cb, decide_eq_false (show ¬ v 15 p i + m ≤ 9999 by omega), Bool.false_and, Bool.and_false])]
      rfl
theorem c_purchase_22 {p i m : Nat} (hC : v_C f g 22 v) (hBn : v_Bn N v) (hN : N + 1000 < 2 ^ 60) (hp : p < v 2 0 0) (hi : i < v 1 0 0) (hm1 : 1 ≤ m) (hm : m ≤ 999) : x_Ct 20 (d + 3) [.ref 22, .int (nI p), .int (nI i), .int (nI m), .long (lN (v_wb v p i m))] (f, g, x_HR r t, dm, n) (x_PO f g 22 (x_HR r t) dm n v (s_buy v p i m)) := by
  have hB := v_Bn_B hBn (by omega)
  have bK := v_B_K hB
  have bG := v_B_G hB
  have bP := v_B_P hB
  have eS := v_S_l (v := v) (i := i) (show m ≤ 9999 by omega)
  have hwb := v_wb_lt hB (p := p) (i := i) (m := m)
  refine x_Ct_w (by decide) (Nat.le_of_ble_eq_true rfl) ok20 [] 6 ?_
  cases hcb : v_cb v p i m with
  | false =>
    have hno := (v_wb_no hB).mpr hcb
    rw [show s_buy v p i m = none from if_neg (by rw [hcb]; decide)]
    refine And.intro (fun c => ?_) (fun c => ?_)
    · have c : ¬ lg_cmp (lN (v_wb v p i m)) (lN 1152921504606846976) = 0 := c
      rw [x_lg_eq, pk_lEQ (by omega) (by decide)] at c
      exact absurd hno c
    · refine And.intro ?_ ⟨trivial, Nat.le_refl _, Nat.le_refl _⟩
      exact ⟨f, g, rfl, rfl, x_LC_0 hC⟩
  | true =>
    have ew : v_wb v p i m = y_way (v_w v) (v 13 p) (v 0 0 0) (v_S v i m) := if_pos hcb
    rw [show s_buy v p i m = some (nI (v_few v p (v_S v i m)), d_buy v p i m) from if_pos hcb]
    have hcb' := hcb
    simp only [v_cb, Bool.and_eq_true, decide_eq_true_eq] at hcb'
    obtain ⟨b1, b2, b3, b4⟩ := hcb'
    obtain ⟨y1, y2, y3, y4, y5⟩ := y_way_ok (v_w_1 hB) bK b3 b4
    refine And.intro (fun c => ?_) (fun c => ?_)
    · refine Exists.intro _ (And.intro (c_priceOf_22 hC hB hi) (And.intro (And.intro (Nat.zero_le _) (Nat.zero_le _)) (fun q h' hpo => ?_)))
      obtain ⟨rfl, rfl⟩ := hpo
      have eg : g 22 7 + (nI m).toInt64 * lN (v 10 i 0 * v 7 0 0) = lN (v 17 0 0 + v_S v i m) := by rw [eS, hC.2.2, lN_add]
      have hB17 := v_Bn_17 hBn (x := v 17 0 0 + v_S v i m) (M := N + 1000) (by omega) (by have := hBn.2.2.2; omega)
      have tr := c_tradeB_22 (d := d) (r := r) (t := t) (dm := dm) (n := n) (p := p) (i := i) (m := m) (w := v_wb v p i m) (c := v_vec v p (v_S v i m)) (v_C_17 hC (v 17 0 0 + v_S v i m)) (v_Bn_B hB17 (by omega)) hp hi hm1 b1 b2 (by omega) (fun k hk => by rw [ew]; exact ⟨y3 k hk, y4 k hk⟩)
      rw [← eg] at tr
      refine Exists.intro _ (And.intro tr (And.intro (And.intro (Nat.zero_le _) (Nat.zero_le _)) (fun q h' hpo => ?_)))
      obtain ⟨F, rfl, rfl, hF⟩ := hpo
      have cs := c_sheetsIn (d := d + 2) (h := (F, x_up g 22 7 (g 22 7 + (nI m).toInt64 * lN (v 10 i 0 * v 7 0 0)), x_HR r t, dm, n)) (w := v_wb v p i m) (by omega)
      refine Exists.intro _ (And.intro cs (And.intro (And.intro (Nat.zero_le _) (Nat.zero_le _)) (fun q h' hpo => ?_)))
      obtain ⟨rfl, rfl⟩ := hpo
      refine And.intro ?_ ⟨trivial, Nat.le_refl _, Nat.le_refl _⟩
      refine ⟨F, _, rfl, ?_, ?_⟩
      · rw [ew, y2]
        rfl
      · have e := x_LC_17 (x_LC_0 hC) (v 17 0 0 + v_S v i m)
        rw [← eg] at e
        exact x_LC_tr e hF
    · have c : lg_cmp (lN (v_wb v p i m)) (lN 1152921504606846976) = 0 := c
      rw [x_lg_eq, pk_lEQ (by omega) (by decide), ew] at c
      omega
theorem c_takeGoods_22 {p i m : Nat} (hC : v_C f g 22 v) (hBn : v_Bn N v) (hN : N + 1000 < 2 ^ 60) (hp : p < v 2 0 0) (hi : i < v 1 0 0) (hm1 : 1 ≤ m) (hm : m ≤ 999) : x_Ct 22 (d + 3) [.ref 22, .ref 99, .int (nI p), .int (nI i), .int (nI m)] (f, g, x_HR r t, dm, n) (x_PO f g 22 (x_HR r t) dm n v (s_sell v p i m)) := by
  have hB := v_Bn_B hBn (by omega)
  have bK := v_B_K hB
  have bG := v_B_G hB
  have bP := v_B_P hB
  have o11 : v_ok v 11 i 0 := show i < v 1 0 0 ∧ 0 = 0 from ⟨by omega, rfl⟩
  have h11 : f 27 i = nI (v 11 i 0) := hC.1 11 i 0 o11
  have b11 : v 11 i 0 ≤ 9999 := (hB.1 11 i 0 o11).2
  have o15 : v_ok v 15 p i := show 15 = 15 ∧ p < v 2 0 0 ∧ i < v 1 0 0 from ⟨rfl, by omega, by omega⟩
  have h15 : f 31 (5 * p + i) = nI (v 15 p i) := hC.1 15 p i o15
  have b15 : v 15 p i ≤ 9999 := (hB.1 15 p i o15).2
  have hS := v_S_lt hB hi (show m ≤ 9999 by omega)
  have eS := v_S_l (v := v) (i := i) (show m ≤ 9999 by omega)
  have no : ∀ G, (∀ k, k ≠ 100 → G k = g k) → v_cs v p i m = false → x_PO f g 22 (x_HR r t) dm n v (s_sell v p i m) (some (.int (-1))) (f, G, x_HR r t, dm, n) := by
    intro G hG hcs
    rw [show s_sell v p i m = none from if_neg (by rw [hcs]; decide)]
    exact ⟨f, G, rfl, rfl, x_LC_G (by decide) hG hC⟩
  refine x_Ct_w (by decide) (Nat.le_of_ble_eq_true rfl) ok22 [] 10 ?_
  refine Exists.intro _ (And.intro (c_priceOf_22 hC hB hi) (And.intro (And.intro (Nat.zero_le _) (Nat.zero_le _)) (fun q h' hpo => ?_)))
  obtain ⟨rfl, rfl⟩ := hpo
  refine Exists.intro _ (And.intro c_chest (And.intro (And.intro (Nat.zero_le _) (Nat.zero_le _)) (fun q h' hpo => ?_)))
  obtain ⟨rfl, rfl⟩ := hpo
  rw [x_pl5]
  refine And.intro (x_ix_nI (by omega) (by omega)) ?_
  rw [nI_clamp (by omega)]
  refine And.intro (fun c => ?_) (fun c => ?_)
  · have c : f 31 (5 * p + i) < nI m := c
    rw [h15, nI_ltI (by omega) (by omega)] at c
    refine And.intro ?_ ⟨trivial, Nat.le_refl _, Nat.le_refl _⟩
    exact no g (fun _ _ => rfl) (by simp only [v_cs, decide_eq_false (show ¬ m ≤ v 15 p i by omega), Bool.false_and])
  · have c : ¬ f 31 (5 * p + i) < nI m := c
    rw [h15, nI_ltI (by omega) (by omega)] at c
    refine And.intro (x_ix_nI (by omega) (by omega)) ?_
    rw [nI_clamp (by omega)]
    refine And.intro (fun c2 => ?_) (fun c2 => ?_)
    · have c2 : nI 9999 < f 27 i + nI m := c2
      rw [h11, nI_add, nI_ltI (by omega) (by omega)] at c2
      refine And.intro ?_ ⟨trivial, Nat.le_refl _, Nat.le_refl _⟩
      exact no g (fun _ _ => rfl) (by simp only [v_cs, decide_eq_false (show ¬ v 11 i 0 + m ≤ 9999 by omega), Bool.false_and, Bool.and_false])
    · have c2 : ¬ nI 9999 < f 27 i + nI m := c2
      rw [h11, nI_add, nI_ltI (by omega) (by omega)] at c2
      refine And.intro (fun c3 => ?_) (fun c3 => ?_)
      · have c3 : lg_cmp ((nI m).toInt64 * lN (v 10 i 0 * v 7 0 0)) (lN 999) ≤ 0 := c3
        rw [← Int32.not_lt, x_lg_gt, eS, pk_lLT (by decide) (by omega)] at c3
        have cw := c_wayOfPrint_22 (d := d + 1) (r := r) (t := t) (dm := dm) (n := n) (s := v_S v i m) hC hB (by omega)
        rw [← lN_i (v_S v i m), ← eS] at cw
        refine Exists.intro _ (And.intro cw (And.intro (And.intro (Nat.zero_le _) (Nat.zero_le _)) (fun q h' hpo => ?_)))
        obtain ⟨rfl, G, rfl, hG⟩ := hpo
        have hCG : v_C f G 22 v := v_C_fr hC (fun _ _ _ => rfl) (hG _ (by decide))
        have hwl := y_way_le (a := fun _ => 999) (s := v_S v i m) (v_w_1 hB) bK (by omega)
        by_cases hl : v_fewP v (v_S v i m) < 1000000
        · obtain ⟨y1, y2, y3, y4, y5⟩ := y_way_ok (v_w_1 hB) bK (show v_S v i m ≤ 999 by omega) hl
          refine And.intro (fun c4 => ?_) (fun c4 => ?_)
          · have c4 : lg_cmp (lN (y_way (v_w v) (fun _ => 999) (v 0 0 0) (v_S v i m))) (lN 1152921504606846976) = 0 := c4
            rw [x_lg_eq, pk_lEQ (by omega) (by decide)] at c4
            omega
          · refine Exists.intro _ (And.intro (c_hasRoomFor_22 (d := d) (c := v_vecP v (v_S v i m)) hCG hB hp (show y_way (v_w v) (fun _ => 999) (v 0 0 0) (v_S v i m) < 2 ^ 61 by omega) (fun k hk => ⟨y3 k hk, y5 k hk⟩)) (And.intro (And.intro (Nat.zero_le _) (Nat.zero_le _)) (fun q h' hpo => ?_)))
            obtain ⟨rfl, ⟨rfl, hroom⟩ | ⟨rfl, k0, hk0, hroom⟩⟩ := hpo
            · have hcs : v_cs v p i m = true := by
                simp only [v_cs, Bool.and_eq_true, decide_eq_true_eq, v_rm, List.all_eq_true, List.mem_range]
                exact ⟨by omega, by omega, by omega, hl, hroom⟩
              rw [show s_sell v p i m = some (nI (v_fewP v (v_S v i m)), d_sell v p i m) from if_pos hcs]
              refine And.intro (fun _ => ?_) (fun c => absurd c (by decide))
              have eg : G 22 6 + (nI m).toInt64 * lN (v 10 i 0 * v 7 0 0) = lN (v 16 0 0 + v_S v i m) := by rw [eS, hCG.2.1, lN_add]
              have hB16 := v_Bn_16 hBn (x := v 16 0 0 + v_S v i m) (M := N + 1000) (by omega) (by have := hBn.2.2.1; omega)
              have tr := c_tradeS_22 (d := d) (r := r) (t := t) (dm := dm) (n := n) (p := p) (i := i) (m := m) (w := y_way (v_w v) (fun _ => 999) (v 0 0 0) (v_S v i m)) (c := v_vecP v (v_S v i m)) (v_C_16 hCG (v 16 0 0 + v_S v i m)) (v_Bn_B hB16 (by omega)) hp hi hm1 (show m ≤ v 15 p i by omega) (show v 11 i 0 + m ≤ 9999 by omega) (by omega) (fun k hk => ⟨y3 k hk, hroom k hk⟩)
              rw [← eg] at tr
              refine Exists.intro _ (And.intro tr (And.intro (And.intro (Nat.zero_le _) (Nat.zero_le _)) (fun q h' hpo => ?_)))
              obtain ⟨F, rfl, rfl, hF⟩ := hpo
              refine Exists.intro _ (And.intro (c_sheetsIn (d := d + 2) (w := y_way (v_w v) (fun _ => 999) (v 0 0 0) (v_S v i m)) (by omega)) (And.intro (And.intro (Nat.zero_le _) (Nat.zero_le _)) (fun q h' hpo => ?_)))
              obtain ⟨rfl, rfl⟩ := hpo
              refine And.intro ?_ ⟨trivial, Nat.le_refl _, Nat.le_refl _⟩
              refine ⟨F, _, rfl, ?_, ?_⟩
              · rw [y2]
                rfl
              · have e := x_LC_16 (x_LC_0 hCG) (v 16 0 0 + v_S v i m)
                rw [← eg] at e
                exact x_LC_tr (x_LC_G (by decide) hG hC) (x_LC_tr e hF)
            · refine And.intro (fun c => absurd rfl c) (fun _ => ?_)
              refine And.intro ?_ ⟨trivial, Nat.le_refl _, Nat.le_refl _⟩
              refine no G hG ?_
              have : v_rm v p (v_vecP v (v_S v i m)) = false := by
                rw [Bool.eq_false_iff]
                intro hq
                simp only [v_rm, List.all_eq_true, List.mem_range, decide_eq_true_eq] at hq
                have := hq k0 hk0
                omega
              simp only [v_cs, this, Bool.and_false]
        · have hno : y_way (v_w v) (fun _ => 999) (v 0 0 0) (v_S v i m) = 2 ^ 60 := y_way_no hl
          refine And.intro (fun c4 => ?_) (fun c4 => ?_)
          · refine And.intro ?_ ⟨trivial, Nat.le_refl _, Nat.le_refl _⟩
            exact no G hG (by simp only [v_cs, decide_eq_false hl, Bool.false_and, Bool.and_false])
          · have c4 : ¬ lg_cmp (lN (y_way (v_w v) (fun _ => 999) (v 0 0 0) (v_S v i m))) (lN 1152921504606846976) = 0 := c4
            rw [x_lg_eq, pk_lEQ (by omega) (by decide)] at c4
            exact absurd hno c4
      · have c3 : ¬ lg_cmp ((nI m).toInt64 * lN (v 10 i 0 * v 7 0 0)) (lN 999) ≤ 0 := c3
        rw [← Int32.not_lt, x_lg_gt, eS, pk_lLT (by decide) (by omega)] at c3
        refine And.intro ?_ ⟨trivial, Nat.le_refl _, Nat.le_refl _⟩
        exact no g (fun _ _ => rfl) (by simp only [v_cs, decide_eq_false (show ¬ v_S v i m ≤ 999 by omega), Bool.false_and, Bool.and_false])
end C37
