/-! what a way says -/
theorem y_dig {c : Nat → Nat} {K : Nat} (hK : K ≤ 4) (hc : ∀ i, i < K → c i ≤ 999) : ∀ k, k < K → y_D K 0 c / 1024 ^ (3 - k) % 1024 = c k := by
  intro k hk
  unfold y_D
  obtain rfl | rfl | rfl | rfl | rfl : K = 0 ∨ K = 1 ∨ K = 2 ∨ K = 3 ∨ K = 4 := by omega
  · omega
  · have h0 := hc 0 (by omega)
    obtain rfl : k = 0 := by omega
    show (c 0 * 1024 ^ 3 + 0) / 1024 ^ 3 % 1024 = c 0
    omega
  · have h0 := hc 0 (by omega)
    have h1 := hc 1 (by omega)
    obtain rfl | rfl : k = 0 ∨ k = 1 := by omega
    · show (c 0 * 1024 ^ 3 + (c 1 * 1024 ^ 2 + 0)) / 1024 ^ 3 % 1024 = c 0
      omega
    · show (c 0 * 1024 ^ 3 + (c 1 * 1024 ^ 2 + 0)) / 1024 ^ 2 % 1024 = c 1
      omega
  · have h0 := hc 0 (by omega)
    have h1 := hc 1 (by omega)
    have h2 := hc 2 (by omega)
    obtain rfl | rfl | rfl : k = 0 ∨ k = 1 ∨ k = 2 := by omega
    · show (c 0 * 1024 ^ 3 + (c 1 * 1024 ^ 2 + (c 2 * 1024 ^ 1 + 0))) / 1024 ^ 3 % 1024 = c 0
      omega
    · show (c 0 * 1024 ^ 3 + (c 1 * 1024 ^ 2 + (c 2 * 1024 ^ 1 + 0))) / 1024 ^ 2 % 1024 = c 1
      omega
    · show (c 0 * 1024 ^ 3 + (c 1 * 1024 ^ 2 + (c 2 * 1024 ^ 1 + 0))) / 1024 ^ 1 % 1024 = c 2
      omega
  · have h0 := hc 0 (by omega)
    have h1 := hc 1 (by omega)
    have h2 := hc 2 (by omega)
    have h3 := hc 3 (by omega)
    obtain rfl | rfl | rfl | rfl : k = 0 ∨ k = 1 ∨ k = 2 ∨ k = 3 := by omega
    · show (c 0 * 1024 ^ 3 + (c 1 * 1024 ^ 2 + (c 2 * 1024 ^ 1 + (c 3 * 1024 ^ 0 + 0)))) / 1024 ^ 3 % 1024 = c 0
      omega
    · show (c 0 * 1024 ^ 3 + (c 1 * 1024 ^ 2 + (c 2 * 1024 ^ 1 + (c 3 * 1024 ^ 0 + 0)))) / 1024 ^ 2 % 1024 = c 1
      omega
    · show (c 0 * 1024 ^ 3 + (c 1 * 1024 ^ 2 + (c 2 * 1024 ^ 1 + (c 3 * 1024 ^ 0 + 0)))) / 1024 ^ 1 % 1024 = c 2
      omega
    · show (c 0 * 1024 ^ 3 + (c 1 * 1024 ^ 2 + (c 2 * 1024 ^ 1 + (c 3 * 1024 ^ 0 + 0)))) / 1024 ^ 0 % 1024 = c 3
      omega
theorem y_way_ok {w a : Nat → Nat} {K s : Nat} (hw : ∀ i, i < K → 1 ≤ w i) (hK : K ≤ 4) (hs : s ≤ 999) (hl : y_few w a K 0 s < 1000000) : y_way w a K s < 2 ^ 60 ∧ y_sn (y_way w a K s) = y_few w a K 0 s ∧ (∀ k, k < K → y_sk (y_way w a K s) k = y_vec w a K 0 s k) ∧ (∀ k, k < K → y_vec w a K 0 s k ≤ a k) ∧ ∀ k, k < K → y_vec w a K 0 s k ≤ 999 := by
  have hw' : ∀ i, 0 ≤ i → i < 0 + K → 1 ≤ w i := fun i _ b => hw i (by omega)
  obtain ⟨v1, v2, v3⟩ := y_vec_ok K 0 s hw' (by omega) hs hl
  have h9 := y_F_999 hw' hs v1
  have d2 := y_D_lt' (m := K) (k := 0) (by omega) h9
  rw [show (1024 : Nat) ^ (4 - 0) = 1099511627776 from rfl] at d2
  have e2 := y_CD (y_vec w a K 0 s) K 0
  rw [v2, show (2 : Nat) ^ 40 = 1099511627776 from rfl] at e2
  have e : y_way w a K s = y_C K 0 (y_vec w a K 0 s) := if_pos hl
  have hsn : y_sn (y_C K 0 (y_vec w a K 0 s)) = y_few w a K 0 s := by
    unfold y_sn
    omega
  rw [e]
  refine ⟨y_C_lt hw hK hs v1, hsn, fun k hk => ?_, fun k hk => v1.1 k (Nat.zero_le _) (by omega), fun k hk => h9 k (Nat.zero_le _) (by omega)⟩
  unfold y_sk
  rw [hsn, show y_few w a K 0 s * 1099511627776 - y_C K 0 (y_vec w a K 0 s) = y_D K 0 (y_vec w a K 0 s) by omega]
  exact y_dig hK (fun i hi => h9 i (Nat.zero_le _) (by omega)) k hk
theorem y_way_no {w a : Nat → Nat} {K s : Nat} (hl : ¬ y_few w a K 0 s < 1000000) : y_way w a K s = 2 ^ 60 := if_neg hl
/-! trades on a view -/
def d_sub (v : xV) (p : Nat) (c : Nat → Nat) : Nat → xV
  | 0 => v
  | k + 1 => v_set (d_sub v p c k) 13 p k (v 13 p k - c k)
def d_add (v : xV) (p : Nat) (c : Nat → Nat) : Nat → xV
  | 0 => v
  | k + 1 => v_set (d_add v p c k) 13 p k (v 13 p k + c k)
theorem d_sub_at (v : xV) (p : Nat) (c : Nat → Nat) : ∀ K a i j, d_sub v p c K a i j = if a = 13 ∧ i = p ∧ j < K then v 13 p j - c j else v a i j
  | 0, a, i, j => by rw [if_neg (by omega)]; rfl
  | K + 1, a, i, j => by
    show v_set (d_sub v p c K) 13 p K (v 13 p K - c K) a i j = _
    by_cases h : a = 13 ∧ i = p ∧ j = K
    · obtain ⟨rfl, rfl, rfl⟩ := h
      rw [v_set_s, if_pos ⟨rfl, rfl, by omega⟩]
    · rw [v_set_n h, d_sub_at v p c K a i j]
      by_cases h2 : a = 13 ∧ i = p ∧ j < K
      · rw [if_pos h2, if_pos (by omega)]
      · rw [if_neg h2, if_neg (by omega)]
theorem d_add_at (v : xV) (p : Nat) (c : Nat → Nat) : ∀ K a i j, d_add v p c K a i j = if a = 13 ∧ i = p ∧ j < K then v 13 p j + c j else v a i j
  | 0, a, i, j => by rw [if_neg (by omega)]; rfl
  | K + 1, a, i, j => by
    show v_set (d_add v p c K) 13 p K (v 13 p K + c K) a i j = _
    by_cases h : a = 13 ∧ i = p ∧ j = K
    · obtain ⟨rfl, rfl, rfl⟩ := h
      rw [v_set_s, if_pos ⟨rfl, rfl, by omega⟩]
    · rw [v_set_n h, d_add_at v p c K a i j]
      by_cases h2 : a = 13 ∧ i = p ∧ j < K
      · rw [if_pos h2, if_pos (by omega)]
      · rw [if_neg h2, if_neg (by omega)]
theorem d_sub_c {v : xV} {p : Nat} {c : Nat → Nat} {K a i j : Nat} (h : a ≠ 13) : d_sub v p c K a i j = v a i j := by rw [d_sub_at, if_neg (by omega)]
theorem d_add_c {v : xV} {p : Nat} {c : Nat → Nat} {K a i j : Nat} (h : a ≠ 13) : d_add v p c K a i j = v a i j := by rw [d_add_at, if_neg (by omega)]
theorem v_Bn_sub {N : Nat} {v : xV} (h : v_Bn N v) {p : Nat} (c : Nat → Nat) (hp : p < v 2 0 0) : ∀ k, k ≤ v 0 0 0 → v_Bn N (d_sub v p c k)
  | 0, _ => h
  | k + 1, hk => by
    refine v_Bn_set (v_Bn_sub h c hp k (by omega)) (show p < d_sub v p c k 2 0 0 ∧ k < d_sub v p c k 0 0 0 from ?_) (by decide) (by decide) (by decide) (Nat.zero_le _) ?_
    · rw [d_sub_c (by decide), d_sub_c (by decide)]
      omega
    · have h1 : v 13 p k ≤ 9999 := (h.1 13 p k (show p < v 2 0 0 ∧ k < v 0 0 0 from ⟨hp, by omega⟩)).2
      show v 13 p k - c k ≤ 9999
      omega
theorem v_Bn_add {N : Nat} {v : xV} (h : v_Bn N v) {p : Nat} {c : Nat → Nat} (hp : p < v 2 0 0) : ∀ k, k ≤ v 0 0 0 → (∀ j, j < k → v 13 p j + c j ≤ 9999) → v_Bn N (d_add v p c k)
  | 0, _, _ => h
  | k + 1, hk, hc => by
    refine v_Bn_set (v_Bn_add h hp k (by omega) (fun j hj => hc j (by omega))) (show p < d_add v p c k 2 0 0 ∧ k < d_add v p c k 0 0 0 from ?_) (by decide) (by decide) (by decide) (Nat.zero_le _) (hc k (by omega))
    rw [d_add_c (by decide), d_add_c (by decide)]
    omega
def d_tb (v : xV) (p i m : Nat) (c : Nat → Nat) : xV := d_sub (v_set (v_set v 11 i 0 (v 11 i 0 - m)) 15 p i (v 15 p i + m)) p c (v 0 0 0)
def d_ts (v : xV) (p i m : Nat) (c : Nat → Nat) : xV := d_add (v_set (v_set v 11 i 0 (v 11 i 0 + m)) 15 p i (v 15 p i - m)) p c (v 0 0 0)
theorem v_Bn_tb {N : Nat} {v : xV} (h : v_Bn N v) {p i m : Nat} (c : Nat → Nat) (hp : p < v 2 0 0) (hi : i < v 1 0 0) (ho : v 15 p i + m ≤ 9999) : v_Bn N (d_tb v p i m c) := by
  have h11 : v 11 i 0 ≤ 9999 := (h.1 11 i 0 (show i < v 1 0 0 ∧ 0 = 0 from ⟨hi, rfl⟩)).2
  refine v_Bn_sub (v_Bn_set (v_Bn_set h (c := 11) (i := i) (j := 0) (show i < v 1 0 0 ∧ 0 = 0 from ⟨hi, rfl⟩) (by decide) (by decide) (by decide) (Nat.zero_le _) ?_) (c := 15) (i := p) (j := i) (show 15 = 15 ∧ p < v 2 0 0 ∧ i < v 1 0 0 from ⟨rfl, hp, hi⟩) (by decide) (by decide) (by decide) (Nat.zero_le _) ho) c hp _ (Nat.le_refl _)
  show v 11 i 0 - m ≤ 9999
  omega
theorem v_Bn_ts {N : Nat} {v : xV} (h : v_Bn N v) {p i m : Nat} {c : Nat → Nat} (hp : p < v 2 0 0) (hi : i < v 1 0 0) (hs : v 11 i 0 + m ≤ 9999) (hc : ∀ k, k < v 0 0 0 → v 13 p k + c k ≤ 9999) : v_Bn N (d_ts v p i m c) := by
  have h15 : v 15 p i ≤ 9999 := (h.1 15 p i (show 15 = 15 ∧ p < v 2 0 0 ∧ i < v 1 0 0 from ⟨rfl, hp, hi⟩)).2
  refine v_Bn_add (v_Bn_set (v_Bn_set h (c := 11) (i := i) (j := 0) (show i < v 1 0 0 ∧ 0 = 0 from ⟨hi, rfl⟩) (by decide) (by decide) (by decide) (Nat.zero_le _) hs) (c := 15) (i := p) (j := i) (show 15 = 15 ∧ p < v 2 0 0 ∧ i < v 1 0 0 from ⟨rfl, hp, hi⟩) (by decide) (by decide) (by decide) (Nat.zero_le _) ?_) hp _ (Nat.le_refl _) hc
  show v 15 p i - m ≤ 9999
  omega
theorem d_tb_at (v : xV) (p i m : Nat) (c : Nat → Nat) (a b e : Nat) : d_tb v p i m c a b e = if a = 13 ∧ b = p ∧ e < v 0 0 0 then v 13 p e - c e else if a = 15 ∧ b = p ∧ e = i then v 15 p i + m else if a = 11 ∧ b = i ∧ e = 0 then v 11 i 0 - m else v a b e := by
  unfold d_tb
  rw [d_sub_at]
  by_cases h : a = 13 ∧ b = p ∧ e < v 0 0 0
  · rw [if_pos h, if_pos h, v_set_c (by decide), v_set_c (by decide)]
  · rw [if_neg h, if_neg h]
    rfl
theorem d_ts_at (v : xV) (p i m : Nat) (c : Nat → Nat) (a b e : Nat) : d_ts v p i m c a b e = if a = 13 ∧ b = p ∧ e < v 0 0 0 then v 13 p e + c e else if a = 15 ∧ b = p ∧ e = i then v 15 p i - m else if a = 11 ∧ b = i ∧ e = 0 then v 11 i 0 + m else v a b e := by
  unfold d_ts
  rw [d_add_at]
  by_cases h : a = 13 ∧ b = p ∧ e < v 0 0 0
  · rw [if_pos h, if_pos h, v_set_c (by decide), v_set_c (by decide)]
  · rw [if_neg h, if_neg h]
    rfl
theorem d_tb_c {v : xV} {p i m : Nat} {c : Nat → Nat} {a b e : Nat} (h1 : a ≠ 13) (h2 : a ≠ 15) (h3 : a ≠ 11) : d_tb v p i m c a b e = v a b e := by rw [d_tb_at, if_neg (by omega), if_neg (by omega), if_neg (by omega)]
theorem d_ts_c {v : xV} {p i m : Nat} {c : Nat → Nat} {a b e : Nat} (h1 : a ≠ 13) (h2 : a ≠ 15) (h3 : a ≠ 11) : d_ts v p i m c a b e = v a b e := by rw [d_ts_at, if_neg (by omega), if_neg (by omega), if_neg (by omega)]
theorem d_tb_ts {v : xV} {p i m : Nat} {c : Nat → Nat} (hm : m ≤ v 11 i 0) (hc : ∀ k, k < v 0 0 0 → c k ≤ v 13 p k) : d_ts (d_tb v p i m c) p i m c = v := by
  funext a b e
  have e0 : d_tb v p i m c 0 0 0 = v 0 0 0 := d_tb_c (by decide) (by decide) (by decide)
  have e15 : d_tb v p i m c 15 p i = v 15 p i + m := by rw [d_tb_at, if_neg (by omega), if_pos ⟨rfl, rfl, rfl⟩]
  have e11 : d_tb v p i m c 11 i 0 = v 11 i 0 - m := by rw [d_tb_at, if_neg (by omega), if_neg (by omega), if_pos ⟨rfl, rfl, rfl⟩]
  rw [d_ts_at, e0, e15, e11]
  by_cases h : a = 13 ∧ b = p ∧ e < v 0 0 0
  · rw [if_pos h, d_tb_at, if_pos ⟨rfl, rfl, h.2.2⟩]
    obtain ⟨rfl, rfl, h3⟩ := h
    have := hc _ h3
    omega
  · rw [if_neg h]
    by_cases h2 : a = 15 ∧ b = p ∧ e = i
    · rw [if_pos h2]
      obtain ⟨rfl, rfl, rfl⟩ := h2
      omega
    · rw [if_neg h2]
      by_cases h3 : a = 11 ∧ b = i ∧ e = 0
      · rw [if_pos h3]
        obtain ⟨rfl, rfl, rfl⟩ := h3
        omega
      · rw [if_neg h3, d_tb_at, if_neg h, if_neg h2, if_neg h3]
section C36
variable {f : Nat → Nat → Int32} {g : Nat → Nat → Int64} {r t : Nat} {ρ : Nat → Nat → Option Nat} {dm : List Nat} {n d N : Nat} {v : xV} {h : xH}
theorem c_tradeB_12 {p i m w : Nat} {c : Nat → Nat} (hC : v_C f g 12 v) (hB : v_B v) (hp : p < v 2 0 0) (hi : i < v 1 0 0) (hm1 : 1 ≤ m) (hm : m ≤ v 11 i 0) (ho : v 15 p i + m ≤ 9999) (hw : w < 2 ^ 61) (hc : ∀ k, k < v 0 0 0 → y_sk w k = c k ∧ c k ≤ v 13 p k) : x_Ct 21 (d + 2) [.ref 12, .int (nI p), .int (nI i), .int (nI m), .long (lN w)] (f, g, x_HR r t, dm, n) (fun q h' => ∃ F, h' = (F, g, x_HR r t, dm, n) ∧ q = none ∧ x_LC f g 12 F g (d_tb v p i m c)) := by
  have bK := v_B_K hB
  have bG := v_B_G hB
  have bP := v_B_P hB
  have o11 : v_ok v 11 i 0 := show i < v 1 0 0 ∧ 0 = 0 from ⟨by omega, rfl⟩
  have h11 : f 17 i = nI (v 11 i 0) := hC.1 11 i 0 o11
  have b11 : v 11 i 0 ≤ 9999 := (hB.1 11 i 0 o11).2
  have o15 : v_ok v 15 p i := show 15 = 15 ∧ p < v 2 0 0 ∧ i < v 1 0 0 from ⟨rfl, by omega, by omega⟩
  have h15 : f 21 (5 * p + i) = nI (v 15 p i) := hC.1 15 p i o15
  have b15 : v 15 p i ≤ 9999 := (hB.1 15 p i o15).2
  obtain ⟨v1, hv1⟩ : ∃ v1, v1 = v_set (v_set v 11 i 0 (v 11 i 0 - m)) 15 p i (v 15 p i + m) := ⟨_, rfl⟩
  have loop : ∀ m' k F l7, k + m' = v 0 0 0 → x_LC f g 12 F g (d_sub v1 p c k) → x_J 21 (d + 2) (fun q h' => ∃ F, h' = (F, g, x_HR r t, dm, n) ∧ q = none ∧ x_LC f g 12 F g (d_tb v p i m c)) 27 [some (.ref 12), some (.int (nI p)), some (.int (nI i)), some (.int (nI m)), some (.long (lN w)), none, some (.int (nI k)), l7] [] (F, g, x_HR r t, dm, n) 0 0 := by
    intro m'
    induction m' with
    | zero =>
      intro k F l7 hk hF
      have h0 : F 12 0 = nI (v 0 0 0) := (hF.1.1 0 0 0 ⟨rfl, rfl⟩).trans (by rw [d_sub_c (by decide), hv1]; rfl)
      refine x_wp_ok ok21 [27] 4 ?_
      refine And.intro (fun cc => ?_) (fun cc => ?_)
      · obtain rfl : k = v 0 0 0 := by omega
        rw [hv1] at hF
        exact And.intro ⟨F, rfl, rfl, hF⟩ ⟨trivial, Nat.le_refl _, Nat.le_refl _⟩
      · have cc : ¬ F 12 0 ≤ nI k := cc
        rw [h0, nI_leI (by omega) (by omega)] at cc
        omega
    | succ m' ih =>
      intro k F l7 hk hF
      have h0 : F 12 0 = nI (v 0 0 0) := (hF.1.1 0 0 0 ⟨rfl, rfl⟩).trans (by rw [d_sub_c (by decide), hv1]; rfl)
      have e0 : d_sub v1 p c k 0 0 0 = v 0 0 0 := by rw [d_sub_c (by decide), hv1]; rfl
      have e1 : d_sub v1 p c k 1 0 0 = v 1 0 0 := by rw [d_sub_c (by decide), hv1]; rfl
      have e2 : d_sub v1 p c k 2 0 0 = v 2 0 0 := by rw [d_sub_c (by decide), hv1]; rfl
      have o13 : v_ok (d_sub v1 p c k) 13 p k := show p < d_sub v1 p c k 2 0 0 ∧ k < d_sub v1 p c k 0 0 0 by omega
      have e13 : v1 13 p k = v 13 p k := by rw [hv1, v_set_c (by decide), v_set_c (by decide)]
      have h13 : F 19 (4 * p + k) = nI (v 13 p k) := (hF.1.1 13 p k o13).trans (by rw [d_sub_at, if_neg (by omega), e13])
      obtain ⟨hk1, hk2⟩ := hc k (by omega)
      have ev : F 19 (4 * p + k) + -(nI (y_sk w k)) = nI (v1 13 p k - c k) := by rw [h13, hk1, e13, ← Int32.sub_eq_add_neg, pk_sub hk2]
      refine x_wp_ok ok21 [27] 4 ?_
      refine And.intro (fun cc => ?_) (fun cc => ?_)
      · have cc : F 12 0 ≤ nI k := cc
        rw [h0, nI_leI (by omega) (by omega)] at cc
        omega
      · refine Exists.intro _ (And.intro (c_sheetsOfKind hw (show k < 4 by omega)) (And.intro (And.intro (Nat.zero_le _) (Nat.zero_le _)) (fun q h' hpo => ?_)))
        obtain ⟨rfl, rfl⟩ := hpo
        refine Exists.intro _ (And.intro c_purse (And.intro (And.intro (Nat.zero_le _) (Nat.zero_le _)) (fun q h' hpo => ?_)))
        obtain ⟨rfl, rfl⟩ := hpo
        rw [x_pl4]
        refine And.intro (x_ix_nI (by omega) (by omega)) ?_
        rw [nI_clamp (by omega)]
        refine And.intro (fun c2 => ?_) (fun c2 => ?_)
        · have c2 : nI m ≤ nI 0 := c2
          rw [nI_leI (by omega) (by omega)] at c2
          omega
        · refine And.intro (x_ix_nI (by omega) (by omega)) ?_
          rw [nI_clamp (by omega)]
          have e := ih (k + 1) _ (some (.int (nI (y_sk w k)))) (by omega) (x_LC_set hF (by omega) (by omega) (c := 13) (i := p) (j := k) (x := v1 13 p k - c k) o13 (by decide))
          rw [← ev, nI_succ k] at e
          exact e
  refine x_Ct_w (by decide) (Nat.le_of_ble_eq_true rfl) ok21 [27] 4 ?_
  refine And.intro (x_ix_nI (by omega) (by omega)) ?_
  rw [nI_clamp (by omega)]
  refine And.intro (x_ix_nI (by omega) (by omega)) ?_
  rw [nI_clamp (by omega)]
  refine Exists.intro _ (And.intro c_chest (And.intro (And.intro (Nat.zero_le _) (Nat.zero_le _)) (fun q h' hpo => ?_)))
  obtain ⟨rfl, rfl⟩ := hpo
  rw [x_pl5]
  refine And.intro (x_ix_nI (by omega) (by omega)) ?_
  rw [nI_clamp (by omega)]
  refine And.intro (x_ix_nI (by omega) (by omega)) ?_
  rw [nI_clamp (by omega)]
  have e := loop (v 0 0 0) 0 _ none (Nat.zero_add _) (by rw [hv1]; exact x_LC_set (x_LC_set (x_LC_0 hC) bK bG o11 (x := v 11 i 0 - m) (by decide)) bK bG (c := 15) (i := p) (j := i) (x := v 15 p i + m) ((v_ok_set (by decide)).mpr o15) (by decide))
  rw [← pk_sub hm, ← h11, ← nI_add (v 15 p i), ← h15] at e
  exact e
theorem c_tradeS_12 {p i m w : Nat} {c : Nat → Nat} (hC : v_C f g 12 v) (hB : v_B v) (hp : p < v 2 0 0) (hi : i < v 1 0 0) (hm1 : 1 ≤ m) (hm : m ≤ v 15 p i) (ho : v 11 i 0 + m ≤ 9999) (hw : w < 2 ^ 61) (hc : ∀ k, k < v 0 0 0 → y_sk w k = c k ∧ v 13 p k + c k ≤ 9999) : x_Ct 21 (d + 2) [.ref 12, .int (nI p), .int (nI i), .int (-(nI m)), .long (lN w)] (f, g, x_HR r t, dm, n) (fun q h' => ∃ F, h' = (F, g, x_HR r t, dm, n) ∧ q = none ∧ x_LC f g 12 F g (d_ts v p i m c)) := by
  have bK := v_B_K hB
  have bG := v_B_G hB
  have bP := v_B_P hB
  have o11 : v_ok v 11 i 0 := show i < v 1 0 0 ∧ 0 = 0 from ⟨by omega, rfl⟩
  have h11 : f 17 i = nI (v 11 i 0) := hC.1 11 i 0 o11
  have b11 : v 11 i 0 ≤ 9999 := (hB.1 11 i 0 o11).2
  have o15 : v_ok v 15 p i := show 15 = 15 ∧ p < v 2 0 0 ∧ i < v 1 0 0 from ⟨rfl, by omega, by omega⟩
  have h15 : f 21 (5 * p + i) = nI (v 15 p i) := hC.1 15 p i o15
  have b15 : v 15 p i ≤ 9999 := (hB.1 15 p i o15).2
  obtain ⟨v1, hv1⟩ : ∃ v1, v1 = v_set (v_set v 11 i 0 (v 11 i 0 + m)) 15 p i (v 15 p i - m) := ⟨_, rfl⟩
  have hneg : -(nI m) ≤ 0 := by
    rw [x_le, sb_negT (by omega)]
    show -(m : Int) ≤ 0
    omega
  have loop : ∀ m' k F l7, k + m' = v 0 0 0 → x_LC f g 12 F g (d_add v1 p c k) → x_J 21 (d + 2) (fun q h' => ∃ F, h' = (F, g, x_HR r t, dm, n) ∧ q = none ∧ x_LC f g 12 F g (d_ts v p i m c)) 27 [some (.ref 12), some (.int (nI p)), some (.int (nI i)), some (.int (-(nI m))), some (.long (lN w)), none, some (.int (nI k)), l7] [] (F, g, x_HR r t, dm, n) 0 0 := by
    intro m'
    induction m' with
    | zero =>
      intro k F l7 hk hF
      have h0 : F 12 0 = nI (v 0 0 0) := (hF.1.1 0 0 0 ⟨rfl, rfl⟩).trans (by rw [d_add_c (by decide), hv1]; rfl)
      refine x_wp_ok ok21 [27] 4 ?_
      refine And.intro (fun cc => ?_) (fun cc => ?_)
      · obtain rfl : k = v 0 0 0 := by omega
        rw [hv1] at hF
        exact And.intro ⟨F, rfl, rfl, hF⟩ ⟨trivial, Nat.le_refl _, Nat.le_refl _⟩
      · have cc : ¬ F 12 0 ≤ nI k := cc
        rw [h0, nI_leI (by omega) (by omega)] at cc
        omega
    | succ m' ih =>
      intro k F l7 hk hF
      have h0 : F 12 0 = nI (v 0 0 0) := (hF.1.1 0 0 0 ⟨rfl, rfl⟩).trans (by rw [d_add_c (by decide), hv1]; rfl)
      have e0 : d_add v1 p c k 0 0 0 = v 0 0 0 := by rw [d_add_c (by decide), hv1]; rfl
      have e1 : d_add v1 p c k 1 0 0 = v 1 0 0 := by rw [d_add_c (by decide), hv1]; rfl
      have e2 : d_add v1 p c k 2 0 0 = v 2 0 0 := by rw [d_add_c (by decide), hv1]; rfl
      have o13 : v_ok (d_add v1 p c k) 13 p k := show p < d_add v1 p c k 2 0 0 ∧ k < d_add v1 p c k 0 0 0 by omega
      have e13 : v1 13 p k = v 13 p k := by rw [hv1, v_set_c (by decide), v_set_c (by decide)]
      have h13 : F 19 (4 * p + k) = nI (v 13 p k) := (hF.1.1 13 p k o13).trans (by rw [d_add_at, if_neg (by omega), e13])
      obtain ⟨hk1, hk2⟩ := hc k (by omega)
      have ev : F 19 (4 * p + k) + nI (y_sk w k) = nI (v1 13 p k + c k) := by rw [h13, hk1, e13, nI_add]
      refine x_wp_ok ok21 [27] 4 ?_
      refine And.intro (fun cc => ?_) (fun cc => ?_)
      · have cc : F 12 0 ≤ nI k := cc
        rw [h0, nI_leI (by omega) (by omega)] at cc
        omega
      · refine Exists.intro _ (And.intro (c_sheetsOfKind hw (show k < 4 by omega)) (And.intro (And.intro (Nat.zero_le _) (Nat.zero_le _)) (fun q h' hpo => ?_)))
        obtain ⟨rfl, rfl⟩ := hpo
        refine Exists.intro _ (And.intro c_purse (And.intro (And.intro (Nat.zero_le _) (Nat.zero_le _)) (fun q h' hpo => ?_)))
        obtain ⟨rfl, rfl⟩ := hpo
        rw [x_pl4]
        refine And.intro (x_ix_nI (by omega) (by omega)) ?_
        rw [nI_clamp (by omega)]
        refine And.intro (fun c2 => ?_) (fun c2 => ?_)
        · refine And.intro (x_ix_nI (by omega) (by omega)) ?_
          rw [nI_clamp (by omega)]
          have e := ih (k + 1) _ (some (.int (nI (y_sk w k)))) (by omega) (x_LC_set hF (by omega) (by omega) (c := 13) (i := p) (j := k) (x := v1 13 p k + c k) o13 (by decide))
          rw [← ev, nI_succ k] at e
          exact e
        · exact absurd hneg c2
  refine x_Ct_w (by decide) (Nat.le_of_ble_eq_true rfl) ok21 [27] 4 ?_
  refine And.intro (x_ix_nI (by omega) (by omega)) ?_
  rw [nI_clamp (by omega)]
  refine And.intro (x_ix_nI (by omega) (by omega)) ?_
  rw [nI_clamp (by omega)]
  refine Exists.intro _ (And.intro c_chest (And.intro (And.intro (Nat.zero_le _) (Nat.zero_le _)) (fun q h' hpo => ?_)))
  obtain ⟨rfl, rfl⟩ := hpo
  rw [x_pl5]
  refine And.intro (x_ix_nI (by omega) (by omega)) ?_
  rw [nI_clamp (by omega)]
  refine And.intro (x_ix_nI (by omega) (by omega)) ?_
  rw [nI_clamp (by omega)]
  have ea : f 17 i - -(nI m) = nI (v 11 i 0 + m) := by rw [h11, Int32.sub_eq_add_neg, Int32.neg_neg, nI_add]
  have eb : f 21 (5 * p + i) + -(nI m) = nI (v 15 p i - m) := by rw [h15, ← Int32.sub_eq_add_neg, pk_sub hm]
  have e := loop (v 0 0 0) 0 _ none (Nat.zero_add _) (by rw [hv1]; exact x_LC_set (x_LC_set (x_LC_0 hC) bK bG o11 (x := v 11 i 0 + m) (by decide)) bK bG (c := 15) (i := p) (j := i) (x := v 15 p i - m) ((v_ok_set (by decide)).mpr o15) (by decide))
  rw [← ea, ← eb] at e
  exact e
theorem c_hasRoomFor_12 {p w : Nat} {c : Nat → Nat} (hC : v_C f g 12 v) (hB : v_B v) (hp : p < v 2 0 0) (hw : w < 2 ^ 61) (hc : ∀ k, k < v 0 0 0 → y_sk w k = c k ∧ c k ≤ 999) : x_Ct 23 (d + 2) [.ref 12, .int (nI p), .long (lN w)] (f, g, x_HR r t, dm, n) (fun q h' => h' = (f, g, x_HR r t, dm, n) ∧ ((q = some (.int 1) ∧ ∀ k, k < v 0 0 0 → v 13 p k + c k ≤ 9999) ∨ (q = some (.int 0) ∧ ∃ k, k < v 0 0 0 ∧ 9999 < v 13 p k + c k))) := by
  have bK := v_B_K hB
  have bG := v_B_G hB
  have bP := v_B_P hB
  have o0 : v_ok v 0 0 0 := ⟨rfl, rfl⟩
  have h0 : f 12 0 = nI (v 0 0 0) := hC.1 0 0 0 o0
  have b0 : v 0 0 0 ≤ 4 := (hB.1 0 0 0 o0).2
  have loop : ∀ m' k, k + m' = v 0 0 0 → (∀ j, j < k → v 13 p j + c j ≤ 9999) → x_J 23 (d + 2) (fun q h' => h' = (f, g, x_HR r t, dm, n) ∧ ((q = some (.int 1) ∧ ∀ k, k < v 0 0 0 → v 13 p k + c k ≤ 9999) ∨ (q = some (.int 0) ∧ ∃ k, k < v 0 0 0 ∧ 9999 < v 13 p k + c k))) 3 [some (.ref 12), some (.int (nI p)), some (.long (lN w)), none, some (.int (nI k))] [] (f, g, x_HR r t, dm, n) 0 0 := by
    intro m'
    induction m' with
    | zero =>
      intro k hk hj
      refine x_wp_ok ok23 [3] 4 ?_
      refine And.intro (fun cc => ?_) (fun cc => ?_)
      · obtain rfl : k = v 0 0 0 := by omega
        exact And.intro ⟨rfl, Or.inl ⟨rfl, hj⟩⟩ ⟨Or.inr rfl, Nat.le_refl _, Nat.le_refl _⟩
      · have cc : ¬ f 12 0 ≤ nI k := cc
        rw [h0, nI_leI (by omega) (by omega)] at cc
        omega
    | succ m' ih =>
      intro k hk hj
      have o13 : v_ok v 13 p k := show p < v 2 0 0 ∧ k < v 0 0 0 from ⟨by omega, by omega⟩
      have h13 : f 19 (4 * p + k) = nI (v 13 p k) := hC.1 13 p k o13
      have b13 : v 13 p k ≤ 9999 := (hB.1 13 p k o13).2
      obtain ⟨hk1, hk2⟩ := hc k (by omega)
      refine x_wp_ok ok23 [3] 4 ?_
      refine And.intro (fun cc => ?_) (fun cc => ?_)
      · have cc : f 12 0 ≤ nI k := cc
        rw [h0, nI_leI (by omega) (by omega)] at cc
        omega
      · refine Exists.intro _ (And.intro c_purse (And.intro (And.intro (Nat.zero_le _) (Nat.zero_le _)) (fun q h' hpo => ?_)))
        obtain ⟨rfl, rfl⟩ := hpo
        rw [x_pl4]
        refine And.intro (x_ix_nI (by omega) (by omega)) ?_
        rw [nI_clamp (by omega)]
        refine Exists.intro _ (And.intro (c_sheetsOfKind hw (show k < 4 by omega)) (And.intro (And.intro (Nat.zero_le _) (Nat.zero_le _)) (fun q h' hpo => ?_)))
        obtain ⟨rfl, rfl⟩ := hpo
        refine And.intro (fun c2 => ?_) (fun c2 => ?_)
        · have c2 : f 19 (4 * p + k) + nI (y_sk w k) ≤ nI 9999 := c2
          rw [h13, hk1, nI_add, nI_leI (by omega) (by omega)] at c2
          have e := ih (k + 1) (by omega) (fun j hj2 => by
            by_cases e : j = k
            · subst e
              exact c2
            · exact hj j (by omega))
          rw [nI_succ k] at e
          exact e
        · have c2 : ¬ f 19 (4 * p + k) + nI (y_sk w k) ≤ nI 9999 := c2
          rw [h13, hk1, nI_add, nI_leI (by omega) (by omega)] at c2
          exact And.intro ⟨rfl, Or.inr ⟨rfl, k, by omega, by omega⟩⟩ ⟨Or.inl rfl, Nat.le_refl _, Nat.le_refl _⟩
  exact x_Ct_w (by decide) (Nat.le_of_ble_eq_true rfl) ok23 [3] 4 (loop (v 0 0 0) 0 (Nat.zero_add _) (fun j hj => by omega))
theorem c_tradeB_22 {p i m w : Nat} {c : Nat → Nat} (hC : v_C f g 22 v) (hB : v_B v) (hp : p < v 2 0 0) (hi : i < v 1 0 0) (hm1 : 1 ≤ m) (hm : m ≤ v 11 i 0) (ho : v 15 p i + m ≤ 9999) (hw : w < 2 ^ 61) (hc : ∀ k, k < v 0 0 0 → y_sk w k = c k ∧ c k ≤ v 13 p k) : x_Ct 21 (d + 2) [.ref 22, .int (nI p), .int (nI i), .int (nI m), .long (lN w)] (f, g, x_HR r t, dm, n) (fun q h' => ∃ F, h' = (F, g, x_HR r t, dm, n) ∧ q = none ∧ x_LC f g 22 F g (d_tb v p i m c)) := by
  have bK := v_B_K hB
  have bG := v_B_G hB
  have bP := v_B_P hB
  have o11 : v_ok v 11 i 0 := show i < v 1 0 0 ∧ 0 = 0 from ⟨by omega, rfl⟩
  have h11 : f 27 i = nI (v 11 i 0) := hC.1 11 i 0 o11
  have b11 : v 11 i 0 ≤ 9999 := (hB.1 11 i 0 o11).2
  have o15 : v_ok v 15 p i := show 15 = 15 ∧ p < v 2 0 0 ∧ i < v 1 0 0 from ⟨rfl, by omega, by omega⟩
  have h15 : f 31 (5 * p + i) = nI (v 15 p i) := hC.1 15 p i o15
  have b15 : v 15 p i ≤ 9999 := (hB.1 15 p i o15).2
  obtain ⟨v1, hv1⟩ : ∃ v1, v1 = v_set (v_set v 11 i 0 (v 11 i 0 - m)) 15 p i (v 15 p i + m) := ⟨_, rfl⟩
  have loop : ∀ m' k F l7, k + m' = v 0 0 0 → x_LC f g 22 F g (d_sub v1 p c k) → x_J 21 (d + 2) (fun q h' => ∃ F, h' = (F, g, x_HR r t, dm, n) ∧ q = none ∧ x_LC f g 22 F g (d_tb v p i m c)) 27 [some (.ref 22), some (.int (nI p)), some (.int (nI i)), some (.int (nI m)), some (.long (lN w)), none, some (.int (nI k)), l7] [] (F, g, x_HR r t, dm, n) 0 0 := by
    intro m'
    induction m' with
    | zero =>
      intro k F l7 hk hF
      have h0 : F 22 0 = nI (v 0 0 0) := (hF.1.1 0 0 0 ⟨rfl, rfl⟩).trans (by rw [d_sub_c (by decide), hv1]; rfl)
      refine x_wp_ok ok21 [27] 4 ?_
      refine And.intro (fun cc => ?_) (fun cc => ?_)
      · obtain rfl : k = v 0 0 0 := by omega
        rw [hv1] at hF
        exact And.intro ⟨F, rfl, rfl, hF⟩ ⟨trivial, Nat.le_refl _, Nat.le_refl _⟩
      · have cc : ¬ F 22 0 ≤ nI k := cc
        rw [h0, nI_leI (by omega) (by omega)] at cc
        omega
    | succ m' ih =>
      intro k F l7 hk hF
      have h0 : F 22 0 = nI (v 0 0 0) := (hF.1.1 0 0 0 ⟨rfl, rfl⟩).trans (by rw [d_sub_c (by decide), hv1]; rfl)
      have e0 : d_sub v1 p c k 0 0 0 = v 0 0 0 := by rw [d_sub_c (by decide), hv1]; rfl
      have e1 : d_sub v1 p c k 1 0 0 = v 1 0 0 := by rw [d_sub_c (by decide), hv1]; rfl
      have e2 : d_sub v1 p c k 2 0 0 = v 2 0 0 := by rw [d_sub_c (by decide), hv1]; rfl
      have o13 : v_ok (d_sub v1 p c k) 13 p k := show p < d_sub v1 p c k 2 0 0 ∧ k < d_sub v1 p c k 0 0 0 by omega
      have e13 : v1 13 p k = v 13 p k := by rw [hv1, v_set_c (by decide), v_set_c (by decide)]
      have h13 : F 29 (4 * p + k) = nI (v 13 p k) := (hF.1.1 13 p k o13).trans (by rw [d_sub_at, if_neg (by omega), e13])
      obtain ⟨hk1, hk2⟩ := hc k (by omega)
      have ev : F 29 (4 * p + k) + -(nI (y_sk w k)) = nI (v1 13 p k - c k) := by rw [h13, hk1, e13, ← Int32.sub_eq_add_neg, pk_sub hk2]
      refine x_wp_ok ok21 [27] 4 ?_
      refine And.intro (fun cc => ?_) (fun cc => ?_)
      · have cc : F 22 0 ≤ nI k := cc
        rw [h0, nI_leI (by omega) (by omega)] at cc
        omega
      · refine Exists.intro _ (And.intro (c_sheetsOfKind hw (show k < 4 by omega)) (And.intro (And.intro (Nat.zero_le _) (Nat.zero_le _)) (fun q h' hpo => ?_)))
        obtain ⟨rfl, rfl⟩ := hpo
        refine Exists.intro _ (And.intro c_purse (And.intro (And.intro (Nat.zero_le _) (Nat.zero_le _)) (fun q h' hpo => ?_)))
        obtain ⟨rfl, rfl⟩ := hpo
        rw [x_pl4]
        refine And.intro (x_ix_nI (by omega) (by omega)) ?_
        rw [nI_clamp (by omega)]
        refine And.intro (fun c2 => ?_) (fun c2 => ?_)
        · have c2 : nI m ≤ nI 0 := c2
          rw [nI_leI (by omega) (by omega)] at c2
          omega
        · refine And.intro (x_ix_nI (by omega) (by omega)) ?_
          rw [nI_clamp (by omega)]
          have e := ih (k + 1) _ (some (.int (nI (y_sk w k)))) (by omega) (x_LC_set hF (by omega) (by omega) (c := 13) (i := p) (j := k) (x := v1 13 p k - c k) o13 (by decide))
          rw [← ev, nI_succ k] at e
          exact e
  refine x_Ct_w (by decide) (Nat.le_of_ble_eq_true rfl) ok21 [27] 4 ?_
  refine And.intro (x_ix_nI (by omega) (by omega)) ?_
  rw [nI_clamp (by omega)]
  refine And.intro (x_ix_nI (by omega) (by omega)) ?_
  rw [nI_clamp (by omega)]
  refine Exists.intro _ (And.intro c_chest (And.intro (And.intro (Nat.zero_le _) (Nat.zero_le _)) (fun q h' hpo => ?_)))
  obtain ⟨rfl, rfl⟩ := hpo
  rw [x_pl5]
  refine And.intro (x_ix_nI (by omega) (by omega)) ?_
  rw [nI_clamp (by omega)]
  refine And.intro (x_ix_nI (by omega) (by omega)) ?_
  rw [nI_clamp (by omega)]
  have e := loop (v 0 0 0) 0 _ none (Nat.zero_add _) (by rw [hv1]; exact x_LC_set (x_LC_set (x_LC_0 hC) bK bG o11 (x := v 11 i 0 - m) (by decide)) bK bG (c := 15) (i := p) (j := i) (x := v 15 p i + m) ((v_ok_set (by decide)).mpr o15) (by decide))
  rw [← pk_sub hm, ← h11, ← nI_add (v 15 p i), ← h15] at e
  exact e
theorem c_tradeS_22 {p i m w : Nat} {c : Nat → Nat} (hC : v_C f g 22 v) (hB : v_B v) (hp : p < v 2 0 0) (hi : i < v 1 0 0) (hm1 : 1 ≤ m) (hm : m ≤ v 15 p i) (ho : v 11 i 0 + m ≤ 9999) (hw : w < 2 ^ 61) (hc : ∀ k, k < v 0 0 0 → y_sk w k = c k ∧ v 13 p k + c k ≤ 9999) : x_Ct 21 (d + 2) [.ref 22, .int (nI p), .int (nI i), .int (-(nI m)), .long (lN w)] (f, g, x_HR r t, dm, n) (fun q h' => ∃ F, h' = (F, g, x_HR r t, dm, n) ∧ q = none ∧ x_LC f g 22 F g (d_ts v p i m c)) := by
  have bK := v_B_K hB
  have bG := v_B_G hB
  have bP := v_B_P hB
  have o11 : v_ok v 11 i 0 := show i < v 1 0 0 ∧ 0 = 0 from ⟨by omega, rfl⟩
  have h11 : f 27 i = nI (v 11 i 0) := hC.1 11 i 0 o11
  have b11 : v 11 i 0 ≤ 9999 := (hB.1 11 i 0 o11).2
  have o15 : v_ok v 15 p i := show 15 = 15 ∧ p < v 2 0 0 ∧ i < v 1 0 0 from ⟨rfl, by omega, by omega⟩
  have h15 : f 31 (5 * p + i) = nI (v 15 p i) := hC.1 15 p i o15
  have b15 : v 15 p i ≤ 9999 := (hB.1 15 p i o15).2
  obtain ⟨v1, hv1⟩ : ∃ v1, v1 = v_set (v_set v 11 i 0 (v 11 i 0 + m)) 15 p i (v 15 p i - m) := ⟨_, rfl⟩
  have hneg : -(nI m) ≤ 0 := by
    rw [x_le, sb_negT (by omega)]
    show -(m : Int) ≤ 0
    omega
  have loop : ∀ m' k F l7, k + m' = v 0 0 0 → x_LC f g 22 F g (d_add v1 p c k) → x_J 21 (d + 2) (fun q h' => ∃ F, h' = (F, g, x_HR r t, dm, n) ∧ q = none ∧ x_LC f g 22 F g (d_ts v p i m c)) 27 [some (.ref 22), some (.int (nI p)), some (.int (nI i)), some (.int (-(nI m))), some (.long (lN w)), none, some (.int (nI k)), l7] [] (F, g, x_HR r t, dm, n) 0 0 := by
    intro m'
    induction m' with
    | zero =>
      intro k F l7 hk hF
      have h0 : F 22 0 = nI (v 0 0 0) := (hF.1.1 0 0 0 ⟨rfl, rfl⟩).trans (by rw [d_add_c (by decide), hv1]; rfl)
      refine x_wp_ok ok21 [27] 4 ?_
      refine And.intro (fun cc => ?_) (fun cc => ?_)
      · obtain rfl : k = v 0 0 0 := by omega
        rw [hv1] at hF
        exact And.intro ⟨F, rfl, rfl, hF⟩ ⟨trivial, Nat.le_refl _, Nat.le_refl _⟩
      · have cc : ¬ F 22 0 ≤ nI k := cc
        rw [h0, nI_leI (by omega) (by omega)] at cc
        omega
    | succ m' ih =>
      intro k F l7 hk hF
      have h0 : F 22 0 = nI (v 0 0 0) := (hF.1.1 0 0 0 ⟨rfl, rfl⟩).trans (by rw [d_add_c (by decide), hv1]; rfl)
      have e0 : d_add v1 p c k 0 0 0 = v 0 0 0 := by rw [d_add_c (by decide), hv1]; rfl
      have e1 : d_add v1 p c k 1 0 0 = v 1 0 0 := by rw [d_add_c (by decide), hv1]; rfl
      have e2 : d_add v1 p c k 2 0 0 = v 2 0 0 := by rw [d_add_c (by decide), hv1]; rfl
      have o13 : v_ok (d_add v1 p c k) 13 p k := show p < d_add v1 p c k 2 0 0 ∧ k < d_add v1 p c k 0 0 0 by omega
      have e13 : v1 13 p k = v 13 p k := by rw [hv1, v_set_c (by decide), v_set_c (by decide)]
      have h13 : F 29 (4 * p + k) = nI (v 13 p k) := (hF.1.1 13 p k o13).trans (by rw [d_add_at, if_neg (by omega), e13])
      obtain ⟨hk1, hk2⟩ := hc k (by omega)
      have ev : F 29 (4 * p + k) + nI (y_sk w k) = nI (v1 13 p k + c k) := by rw [h13, hk1, e13, nI_add]
      refine x_wp_ok ok21 [27] 4 ?_
      refine And.intro (fun cc => ?_) (fun cc => ?_)
      · have cc : F 22 0 ≤ nI k := cc
        rw [h0, nI_leI (by omega) (by omega)] at cc
        omega
      · refine Exists.intro _ (And.intro (c_sheetsOfKind hw (show k < 4 by omega)) (And.intro (And.intro (Nat.zero_le _) (Nat.zero_le _)) (fun q h' hpo => ?_)))
        obtain ⟨rfl, rfl⟩ := hpo
        refine Exists.intro _ (And.intro c_purse (And.intro (And.intro (Nat.zero_le _) (Nat.zero_le _)) (fun q h' hpo => ?_)))
        obtain ⟨rfl, rfl⟩ := hpo
        rw [x_pl4]
        refine And.intro (x_ix_nI (by omega) (by omega)) ?_
        rw [nI_clamp (by omega)]
        refine And.intro (fun c2 => ?_) (fun c2 => ?_)
        · refine And.intro (x_ix_nI (by omega) (by omega)) ?_
          rw [nI_clamp (by omega)]
          have e := ih (k + 1) _ (some (.int (nI (y_sk w k)))) (by omega) (x_LC_set hF (by omega) (by omega) (c := 13) (i := p) (j := k) (x := v1 13 p k + c k) o13 (by decide))
          rw [← ev, nI_succ k] at e
          exact e
        · exact absurd hneg c2
  refine x_Ct_w (by decide) (Nat.le_of_ble_eq_true rfl) ok21 [27] 4 ?_
  refine And.intro (x_ix_nI (by omega) (by omega)) ?_
  rw [nI_clamp (by omega)]
  refine And.intro (x_ix_nI (by omega) (by omega)) ?_
  rw [nI_clamp (by omega)]
  refine Exists.intro _ (And.intro c_chest (And.intro (And.intro (Nat.zero_le _) (Nat.zero_le _)) (fun q h' hpo => ?_)))
  obtain ⟨rfl, rfl⟩ := hpo
  rw [x_pl5]
  refine And.intro (x_ix_nI (by omega) (by omega)) ?_
  rw [nI_clamp (by omega)]
  refine And.intro (x_ix_nI (by omega) (by omega)) ?_
  rw [nI_clamp (by omega)]
  have ea : f 27 i - -(nI m) = nI (v 11 i 0 + m) := by rw [h11, Int32.sub_eq_add_neg, Int32.neg_neg, nI_add]
  have eb : f 31 (5 * p + i) + -(nI m) = nI (v 15 p i - m) := by rw [h15, ← Int32.sub_eq_add_neg, pk_sub hm]
  have e := loop (v 0 0 0) 0 _ none (Nat.zero_add _) (by rw [hv1]; exact x_LC_set (x_LC_set (x_LC_0 hC) bK bG o11 (x := v 11 i 0 + m) (by decide)) bK bG (c := 15) (i := p) (j := i) (x := v 15 p i - m) ((v_ok_set (by decide)).mpr o15) (by decide))
  rw [← ea, ← eb] at e
  exact e
theorem c_hasRoomFor_22 {p w : Nat} {c : Nat → Nat} (hC : v_C f g 22 v) (hB : v_B v) (hp : p < v 2 0 0) (hw : w < 2 ^ 61) (hc : ∀ k, k < v 0 0 0 → y_sk w k = c k ∧ c k ≤ 999) : x_Ct 23 (d + 2) [.ref 22, .int (nI p), .long (lN w)] (f, g, x_HR r t, dm, n) (fun q h' => h' = (f, g, x_HR r t, dm, n) ∧ ((q = some (.int 1) ∧ ∀ k, k < v 0 0 0 → v 13 p k + c k ≤ 9999) ∨ (q = some (.int 0) ∧ ∃ k, k < v 0 0 0 ∧ 9999 < v 13 p k + c k))) := by
  have bK := v_B_K hB
  have bG := v_B_G hB
  have bP := v_B_P hB
  have o0 : v_ok v 0 0 0 := ⟨rfl, rfl⟩
  have h0 : f 22 0 = nI (v 0 0 0) := hC.1 0 0 0 o0
  have b0 : v 0 0 0 ≤ 4 := (hB.1 0 0 0 o0).2
  have loop : ∀ m' k, k + m' = v 0 0 0 → (∀ j, j < k → v 13 p j + c j ≤ 9999) → x_J 23 (d + 2) (fun q h' => h' = (f, g, x_HR r t, dm, n) ∧ ((q = some (.int 1) ∧ ∀ k, k < v 0 0 0 → v 13 p k + c k ≤ 9999) ∨ (q = some (.int 0) ∧ ∃ k, k < v 0 0 0 ∧ 9999 < v 13 p k + c k))) 3 [some (.ref 22), some (.int (nI p)), some (.long (lN w)), none, some (.int (nI k))] [] (f, g, x_HR r t, dm, n) 0 0 := by
    intro m'
    induction m' with
    | zero =>
      intro k hk hj
      refine x_wp_ok ok23 [3] 4 ?_
      refine And.intro (fun cc => ?_) (fun cc => ?_)
      · obtain rfl : k = v 0 0 0 := by omega
        exact And.intro ⟨rfl, Or.inl ⟨rfl, hj⟩⟩ ⟨Or.inr rfl, Nat.le_refl _, Nat.le_refl _⟩
      · have cc : ¬ f 22 0 ≤ nI k := cc
        rw [h0, nI_leI (by omega) (by omega)] at cc
        omega
    | succ m' ih =>
      intro k hk hj
      have o13 : v_ok v 13 p k := show p < v 2 0 0 ∧ k < v 0 0 0 from ⟨by omega, by omega⟩
      have h13 : f 29 (4 * p + k) = nI (v 13 p k) := hC.1 13 p k o13
      have b13 : v 13 p k ≤ 9999 := (hB.1 13 p k o13).2
      obtain ⟨hk1, hk2⟩ := hc k (by omega)
      refine x_wp_ok ok23 [3] 4 ?_
      refine And.intro (fun cc => ?_) (fun cc => ?_)
      · have cc : f 22 0 ≤ nI k := cc
        rw [h0, nI_leI (by omega) (by omega)] at cc
        omega
      · refine Exists.intro _ (And.intro c_purse (And.intro (And.intro (Nat.zero_le _) (Nat.zero_le _)) (fun q h' hpo => ?_)))
        obtain ⟨rfl, rfl⟩ := hpo
        rw [x_pl4]
        refine And.intro (x_ix_nI (by omega) (by omega)) ?_
        rw [nI_clamp (by omega)]
        refine Exists.intro _ (And.intro (c_sheetsOfKind hw (show k < 4 by omega)) (And.intro (And.intro (Nat.zero_le _) (Nat.zero_le _)) (fun q h' hpo => ?_)))
        obtain ⟨rfl, rfl⟩ := hpo
        refine And.intro (fun c2 => ?_) (fun c2 => ?_)
        · have c2 : f 29 (4 * p + k) + nI (y_sk w k) ≤ nI 9999 := c2
          rw [h13, hk1, nI_add, nI_leI (by omega) (by omega)] at c2
          have e := ih (k + 1) (by omega) (fun j hj2 => by
            by_cases e : j = k
            · subst e
              exact c2
            · exact hj j (by omega))
          rw [nI_succ k] at e
          exact e
        · have c2 : ¬ f 29 (4 * p + k) + nI (y_sk w k) ≤ nI 9999 := c2
          rw [h13, hk1, nI_add, nI_leI (by omega) (by omega)] at c2
          exact And.intro ⟨rfl, Or.inr ⟨rfl, k, by omega, by omega⟩⟩ ⟨Or.inl rfl, Nat.le_refl _, Nat.le_refl _⟩
  exact x_Ct_w (by decide) (Nat.le_of_ble_eq_true rfl) ok23 [3] 4 (loop (v 0 0 0) 0 (Nat.zero_add _) (fun j hj => by omega))
end C36
