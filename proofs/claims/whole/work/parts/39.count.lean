/-! IN HOW MANY WAYS -/
def y_pc (w : Nat) (T : Nat → Nat) : Nat → Nat → Nat
  | 0, s => T s
  | q + 1, s => T s + (if w ≤ s then y_pc w T q (s - w) else 0)
theorem y_pc_st {w : Nat} {T : Nat → Nat} (hw : 1 ≤ w) : ∀ q q' s, s ≤ q → s ≤ q' → y_pc w T q s = y_pc w T q' s
  | 0, 0, s, _, _ => rfl
  | 0, q' + 1, s, h1, h2 => by
    show T s = T s + (if w ≤ s then _ else 0)
    rw [if_neg (by omega), Nat.add_zero]
  | q + 1, 0, s, h1, h2 => by
    show T s + (if w ≤ s then _ else 0) = T s
    rw [if_neg (by omega), Nat.add_zero]
  | q + 1, q' + 1, s, h1, h2 => by
    show T s + (if w ≤ s then y_pc w T q (s - w) else 0) = T s + (if w ≤ s then y_pc w T q' (s - w) else 0)
    by_cases h : w ≤ s
    · rw [if_pos h, if_pos h, y_pc_st hw q q' (s - w) (by omega) (by omega)]
    · rw [if_neg h, if_neg h]
def y_pC (w : Nat) (T : Nat → Nat) (s : Nat) : Nat := y_pc w T s s
theorem y_pC_eq {w : Nat} {T : Nat → Nat} (hw : 1 ≤ w) : ∀ s, y_pC w T s = T s + (if w ≤ s then y_pC w T (s - w) else 0)
  | 0 => by rw [if_neg (by omega)]; rfl
  | s + 1 => by
    show T (s + 1) + (if w ≤ s + 1 then y_pc w T s (s + 1 - w) else 0) = T (s + 1) + (if w ≤ s + 1 then y_pc w T (s + 1 - w) (s + 1 - w) else 0)
    by_cases h : w ≤ s + 1
    · rw [if_pos h, if_pos h, y_pc_st hw s (s + 1 - w) (s + 1 - w) (by omega) (Nat.le_refl _)]
    · rw [if_neg h, if_neg h]
def y_cnt (w : Nat → Nat) : Nat → Nat → Nat
  | 0 => fun s => if s = 0 then 1 else 0
  | k + 1 => y_pC (w k) (y_cnt w k)
theorem y_pC_le {w : Nat} {T : Nat → Nat} {B : Nat} (hw : 1 ≤ w) : ∀ q s, s ≤ q → (∀ j, j ≤ s → T j ≤ B) → y_pC w T s ≤ (s + 1) * B
  | 0, s, hs, h => by
    obtain rfl : s = 0 := by omega
    have := h 0 (Nat.le_refl _)
    show T 0 ≤ (0 + 1) * B
    omega
  | q + 1, s, hs, h => by
    rw [y_pC_eq hw]
    have h1 := h s (Nat.le_refl _)
    by_cases hc : w ≤ s
    · rw [if_pos hc]
      have h2 := y_pC_le (B := B) hw q (s - w) (by omega) (fun j hj => h j (by omega))
      have h3 : (s - w + 1) * B ≤ s * B := Nat.mul_le_mul_right _ (by omega)
      rw [Nat.add_mul s 1 B, Nat.one_mul]
      omega
    · rw [if_neg hc, Nat.add_mul, Nat.one_mul]
      have : 0 ≤ s * B := Nat.zero_le _
      omega
theorem y_cnt_le {w : Nat → Nat} : ∀ K s, (∀ i, i < K → 1 ≤ w i) → s ≤ 999 → y_cnt w K s ≤ 1000 ^ K
  | 0, s, _, _ => by show (if s = 0 then 1 else 0) ≤ 1; split <;> omega
  | k + 1, s, hw, hs => by
    have h1 := y_pC_le (w := w k) (T := y_cnt w k) (B := 1000 ^ k) (hw k (by omega)) s s (Nat.le_refl _) (fun j hj => y_cnt_le k j (fun i hi => hw i (by omega)) (by omega))
    have h2 : (s + 1) * 1000 ^ k ≤ 1000 * 1000 ^ k := Nat.mul_le_mul_right _ (by omega)
    rw [Nat.pow_succ, Nat.mul_comm (1000 ^ k) 1000]
    exact Nat.le_trans h1 h2
theorem y_pC_sc {w L : Nat} {T T' : Nat → Nat} (hw : 1 ≤ w) (hL : 1 ≤ L) (hT : ∀ s, T' s = if s % L = 0 then T (s / L) else 0) : ∀ q s, s ≤ q → y_pC (w * L) T' s = if s % L = 0 then y_pC w T (s / L) else 0 := by
  have hwL : 1 ≤ w * L := Nat.mul_le_mul hw hL
  intro q
  induction q with
  | zero =>
    intro s hs
    obtain rfl : s = 0 := by omega
    rw [y_pC_eq hwL, if_neg (by omega), hT, Nat.zero_mod, if_pos rfl, if_pos rfl, Nat.zero_div, y_pC_eq hw, if_neg (by omega)]
  | succ q ih =>
    intro s hs
    rw [y_pC_eq hwL, hT]
    have hiff : w * L ≤ s ↔ w ≤ s / L := (Nat.le_div_iff_mul_le hL).symm
    by_cases hc : w * L ≤ s
    · rw [if_pos hc, ih (s - w * L) (by omega)]
      have e1 : (s - w * L) % L = s % L := by
        rw [Nat.mul_comm w L]
        exact Nat.sub_mul_mod (by rw [Nat.mul_comm]; exact hc)
      have e2 : (s - w * L) / L = s / L - w := by
        rw [Nat.mul_comm w L, Nat.sub_mul_div]
      rw [e1, e2]
      by_cases hm : s % L = 0
      · rw [if_pos hm, if_pos hm, if_pos hm, y_pC_eq hw (s / L), if_pos (hiff.mp hc)]
      · rw [if_neg hm, if_neg hm, if_neg hm]
    · rw [if_neg hc]
      by_cases hm : s % L = 0
      · rw [if_pos hm, if_pos hm, y_pC_eq hw (s / L), if_neg (fun q => hc (hiff.mpr q))]
      · rw [if_neg hm, if_neg hm]
theorem y_cnt_sc {w : Nat → Nat} {L : Nat} (hL : 1 ≤ L) : ∀ K, (∀ i, i < K → 1 ≤ w i) → ∀ s, y_cnt (fun i => w i * L) K s = if s % L = 0 then y_cnt w K (s / L) else 0
  | 0, _, s => by
    show (if s = 0 then 1 else 0) = if s % L = 0 then (if s / L = 0 then 1 else 0) else 0
    have h1 := Nat.div_add_mod s L
    by_cases hs : s = 0
    · subst hs
      rw [Nat.zero_mod, Nat.zero_div, if_pos rfl, if_pos rfl]
    · rw [if_neg hs]
      by_cases hm : s % L = 0
      · rw [if_pos hm, if_neg]
        intro h2
        rw [h2, hm, Nat.mul_zero] at h1
        omega
      · rw [if_neg hm]
  | k + 1, hw, s => y_pC_sc (hw k (by omega)) hL (y_cnt_sc hL k (fun i hi => hw i (by omega))) s s (Nat.le_refl _)
theorem y_cnt_0 {w : Nat → Nat} : ∀ K, (∀ i, i < K → 1 ≤ w i) → 0 < y_cnt w K 0
  | 0, _ => by show 0 < if 0 = 0 then 1 else 0; decide
  | k + 1, hw => by
    have h1 := y_cnt_0 (w := w) k (fun i hi => hw i (by omega))
    show 0 < y_pC (w k) (y_cnt w k) 0
    rw [y_pC_eq (hw k (by omega))]
    omega
theorem y_cnt_b {w : Nat → Nat} : ∀ K u, (∀ i, i < K → 1 ≤ w i) → 0 < y_cnt w K u → u ≠ 0 → ∃ i, i < K ∧ w i ≤ u ∧ 0 < y_cnt w K (u - w i)
  | 0, u, _, h, h0 => by
    have h : 0 < if u = 0 then 1 else 0 := h
    rw [if_neg h0] at h
    omega
  | k + 1, u, hw, h, h0 => by
    have hk := hw k (by omega)
    have h : 0 < y_pC (w k) (y_cnt w k) u := h
    rw [y_pC_eq hk] at h
    by_cases h1 : 0 < y_cnt w k u
    · obtain ⟨i, a, b, c⟩ := y_cnt_b k u (fun i hi => hw i (by omega)) h1 h0
      refine ⟨i, by omega, b, ?_⟩
      show 0 < y_pC (w k) (y_cnt w k) (u - w i)
      rw [y_pC_eq hk]
      omega
    · by_cases h2 : w k ≤ u
      · rw [if_pos h2] at h
        exact ⟨k, by omega, h2, by show 0 < y_pC (w k) (y_cnt w k) (u - w k); omega⟩
      · rw [if_neg h2] at h
        omega
theorem y_pC_a {w a : Nat} {T : Nat → Nat} (hw : 1 ≤ w) (hT : ∀ u, 0 < T u → 0 < T (u + a)) : ∀ q u, u ≤ q → 0 < y_pC w T u → 0 < y_pC w T (u + a) := by
  intro q
  induction q with
  | zero =>
    intro u hu h
    rw [y_pC_eq hw, if_neg (by omega)] at h
    have := hT u (by omega)
    rw [y_pC_eq hw]
    omega
  | succ q ih =>
    intro u hu h
    rw [y_pC_eq hw] at h
    rw [y_pC_eq hw]
    by_cases h1 : 0 < T u
    · have := hT u h1
      omega
    · by_cases h2 : w ≤ u
      · rw [if_pos h2] at h
        have := ih (u - w) (by omega) (by omega)
        rw [if_pos (by omega), show u + a - w = u - w + a by omega]
        omega
      · rw [if_neg h2] at h
        omega
theorem y_cnt_a {w : Nat → Nat} : ∀ K i, i < K → (∀ i, i < K → 1 ≤ w i) → ∀ u, 0 < y_cnt w K u → 0 < y_cnt w K (u + w i)
  | 0, i, hi, _, u, _ => by omega
  | k + 1, i, hi, hw, u, h => by
    have hk := hw k (by omega)
    by_cases e : i = k
    · subst e
      show 0 < y_pC (w i) (y_cnt w i) (u + w i)
      rw [y_pC_eq hk, if_pos (by omega), Nat.add_sub_cancel]
      have h : 0 < y_pC (w i) (y_cnt w i) u := h
      omega
    · exact y_pC_a hk (fun u hu => y_cnt_a k i (by omega) (fun i hi => hw i (by omega)) u hu) u u (Nat.le_refl _) h
def y_mx (h : Nat → Nat) : Nat → Nat
  | 0 => 0
  | i + 1 => max (y_mx h i) (h i)
theorem y_mx_ge (h : Nat → Nat) : ∀ K i, i < K → h i ≤ y_mx h K
  | 0, i, hi => by omega
  | K + 1, i, hi => by
    show h i ≤ max (y_mx h K) (h K)
    by_cases e : i = K
    · subst e
      exact Nat.le_max_right _ _
    · exact Nat.le_trans (y_mx_ge h K i (by omega)) (Nat.le_max_left _ _)
theorem y_mx_le {h : Nat → Nat} {B : Nat} : ∀ K, (∀ i, i < K → h i ≤ B) → y_mx h K ≤ B
  | 0, _ => Nat.zero_le _
  | K + 1, hi => Nat.max_le.mpr ⟨y_mx_le K (fun i h => hi i (by omega)), hi K (by omega)⟩
def y_P (w : Nat → Nat) (K u : Nat) : Bool := decide (0 < y_cnt w K u)
theorem y_mx_top {w : Nat → Nat} {K L s : Nat} (hw : ∀ i, i < K → 1 ≤ w i) (hL : 1 ≤ L) : y_mx (fun i => if w i * L ≤ s then w i + y_top (y_P w K) ((s - w i * L) / L) else 0) K = y_top (y_P w K) (s / L) := by
  have p0 : y_P w K 0 = true := decide_eq_true (y_cnt_0 K hw)
  have hiff : ∀ i, w i * L ≤ s ↔ w i ≤ s / L := fun i => (Nat.le_div_iff_mul_le hL).symm
  have hdiv : ∀ i, (s - w i * L) / L = s / L - w i := fun i => by rw [Nat.mul_comm, Nat.sub_mul_div]
  refine Nat.le_antisymm (y_mx_le K (fun i hi => ?_)) ?_
  · show (if w i * L ≤ s then _ else 0) ≤ _
    by_cases hc : w i * L ≤ s
    · rw [if_pos hc, hdiv]
      have h1 := (hiff i).mp hc
      have h2 := y_top_le (y_P w K) (s / L - w i)
      have h3 := y_top_P (P := y_P w K) (s / L - w i) 0 (Nat.zero_le _) p0
      have h4 := y_cnt_a K i hi hw _ (of_decide_eq_true h3)
      have h5 := y_top_max (P := y_P w K) (s / L) (y_top (y_P w K) (s / L - w i) + w i) (by omega) (decide_eq_true h4)
      omega
    · rw [if_neg hc]
      exact Nat.zero_le _
  · have h3 := y_top_P (P := y_P w K) (s / L) 0 (Nat.zero_le _) p0
    have h2 := y_top_le (y_P w K) (s / L)
    by_cases h0 : y_top (y_P w K) (s / L) = 0
    · rw [h0]
      exact Nat.zero_le _
    · obtain ⟨i, a, b, c⟩ := y_cnt_b K _ hw (of_decide_eq_true h3) h0
      have h5 := y_top_max (P := y_P w K) (s / L - w i) (y_top (y_P w K) (s / L) - w i) (by omega) (decide_eq_true c)
      have h6 := y_mx_ge (fun i => if w i * L ≤ s then w i + y_top (y_P w K) ((s - w i * L) / L) else 0) K i a
      have h7 : w i * L ≤ s := (hiff i).mpr (by omega)
      rw [if_pos h7, hdiv] at h6
      omega
def x_sL (ok : Bool) (w : Int64) (v : xV) : xS := match ok with
  | false => (.long (-1), 1, v)
  | true => (.long w, 0, v)
def v_val (v : xV) : Nat → Nat := fun i => v 10 i 0
def sp_changes (v : xV) (x : Int32) : xS := x_sL (x_wi x 0 999) (lN (y_cnt (v_w v) (v 0 0 0) (x_c x))) v
def sp_baskets (v : xV) (x : Int32) : xS := x_sL (x_wi x 0 999) (lN (if x_c x % v 7 0 0 = 0 then y_cnt (v_val v) (v 1 0 0) (x_c x / v 7 0 0) else 0)) v
def sp_mostValue (v : xV) (x : Int32) : xS := x_sr (x_wi x 0 999) (nI (y_top (y_P (v_val v) (v 1 0 0)) (x_c x / v 7 0 0))) v
theorem v_val_1 {v : xV} (hB : v_B v) : ∀ i, i < v 1 0 0 → 1 ≤ v_val v i := fun i hi => (hB.1 10 i 0 (show i < v 1 0 0 ∧ 0 = 0 from ⟨hi, rfl⟩)).1
theorem v_val_99 {v : xV} (hB : v_B v) : ∀ i, i < v 1 0 0 → v_val v i ≤ 99 := fun i hi => (hB.1 10 i 0 (show i < v 1 0 0 ∧ 0 = 0 from ⟨hi, rfl⟩)).2
section C39
variable {f : Nat → Nat → Int32} {g : Nat → Nat → Int64} {r t : Nat} {ρ : Nat → Nat → Option Nat} {dm : List Nat} {n d N : Nat} {v : xV} {h : xH}
theorem c_counts_15 {K s : Nat} {w : Nat → Nat} (hK : K ≤ 4) (hs : s ≤ 999) (hw : ∀ i, i < K → f 15 i = nI (w i) ∧ 1 ≤ w i ∧ w i ≤ 999) : x_Ct 77 (d + 1) [.ref 99, .ref 15, .int (nI K), .int (nI s)] (f, g, x_HR r t, dm, n) (fun q h' => q = none ∧ ∃ G, h' = (f, G, x_HR r t, dm, n) ∧ x_tb g G (y_cnt w K) s) := by
  have loop : ∀ m k G l5 l6, k + m = K → x_tb g G (y_cnt w k) s → x_J 77 (d + 1) (fun q h' => q = none ∧ ∃ G, h' = (f, G, x_HR r t, dm, n) ∧ x_tb g G (y_cnt w K) s) 33 [some (.ref 99), some (.ref 15), some (.int (nI K)), some (.int (nI s)), some (.int (nI k)), l5, l6] [] (f, G, x_HR r t, dm, n) 0 0 := by
    intro m
    induction m with
    | zero =>
      intro k G l5 l6 hk h2
      obtain rfl : k = K := by omega
      refine x_wp_ok ok77 [3, 33, 53] 4 ?_
      refine And.intro (fun c => ?_) (fun c => ?_)
      · exact And.intro ⟨rfl, G, rfl, h2⟩ ⟨trivial, Nat.le_refl _, Nat.le_refl _⟩
      · have c : ¬ nI k ≤ nI k := c
        rw [nI_leI (by omega) (by omega)] at c
        omega
    | succ m ih =>
      intro k G l5 l6 hk h2
      obtain ⟨w1, w2, w3⟩ := hw k (by omega)
      have ew : (if (1 : Int32) < f 15 k then f 15 k else 1) = nI (w k) := by rw [w1, x_max1_nI (by omega) w2]
      have inner : ∀ m' i G, s + 1 ≤ i + m' → w k ≤ i → i ≤ 1000 → x_tb g G (fun j => if j < i then y_pC (w k) (y_cnt w k) j else y_cnt w k j) s → x_J 77 (d + 1) (fun q h' => q = none ∧ ∃ G, h' = (f, G, x_HR r t, dm, n) ∧ x_tb g G (y_cnt w K) s) 53 [some (.ref 99), some (.ref 15), some (.int (nI K)), some (.int (nI s)), some (.int (nI k)), some (.int (nI (w k))), some (.int (nI i))] [] (f, G, x_HR r t, dm, n) 0 0 := by
        intro m'
        induction m' with
        | zero =>
          intro i G hi hi2 hi3 h5
          refine x_wp_ok ok77 [3, 33, 53] 4 ?_
          refine And.intro (fun c => ?_) (fun c => ?_)
          · have e := ih (k + 1) G (some (.int (nI (w k)))) (some (.int (nI i))) (by omega) ⟨h5.1, fun j hj => by rw [h5.2 j hj]; dsimp only; rw [if_pos (by omega)]; rfl⟩
            rw [nI_succ k] at e
            exact e
          · have c : ¬ nI s < nI i := c
            rw [nI_ltI (by omega) (by omega)] at c
            omega
        | succ m' ih' =>
          intro i G hi hi2 hi3 h5
          refine x_wp_ok ok77 [3, 33, 53] 4 ?_
          refine And.intro (fun c => ?_) (fun c => ?_)
          · have c : nI s < nI i := c
            rw [nI_ltI (by omega) (by omega)] at c
            have e := ih (k + 1) G (some (.int (nI (w k)))) (some (.int (nI i))) (by omega) ⟨h5.1, fun j hj => by rw [h5.2 j hj]; dsimp only; rw [if_pos (by omega)]; rfl⟩
            rw [nI_succ k] at e
            exact e
          · have c : ¬ nI s < nI i := c
            rw [nI_ltI (by omega) (by omega)] at c
            have g1 : G 100 (i - w k) = lN (y_pC (w k) (y_cnt w k) (i - w k)) := by rw [h5.2 _ (by omega)]; dsimp only; rw [if_pos (by omega)]
            have g2 : G 100 i = lN (y_cnt w k i) := by rw [h5.2 _ (by omega)]; dsimp only; rw [if_neg (by omega)]
            have eV := y_pC_eq (T := y_cnt w k) w2 i
            rw [if_pos hi2] at eV
            refine And.intro (x_ix_nI (by omega) (by omega)) ?_
            rw [nI_clamp (by omega)]
            refine And.intro (by show x_ix (nI i - nI (w k)) 1000; rw [pk_sub (by omega)]; exact x_ix_nI (by omega) (by omega)) ?_
            rw [pk_sub (by omega), nI_clamp (by omega)]
            refine And.intro (x_ix_nI (by omega) (by omega)) ?_
            rw [nI_clamp (by omega)]
            have e := ih' (i + 1) (x_up G 100 i (G 100 i + G 100 (i - w k))) (by omega) (by omega) (by omega) ⟨fun k hk => by rw [x_up_k hk]; exact h5.1 k hk, fun j hj => by
              by_cases hj1 : j = i
              · subst hj1
                dsimp only
                rw [x_up_s, if_pos (by omega), g1, g2, lN_add, eV]
              · rw [x_up_j hj1, h5.2 j hj]
                congr 1
                dsimp only
                by_cases hc : j < i
                · rw [if_pos hc, if_pos (by omega)]
                · rw [if_neg hc, if_neg (by omega)]⟩
            rw [nI_succ i] at e
            exact e
      refine x_wp_ok ok77 [3, 33, 53] 4 ?_
      refine And.intro (fun c => ?_) (fun c => ?_)
      · have c : nI K ≤ nI k := c
        rw [nI_leI (by omega) (by omega)] at c
        omega
      · refine And.intro (x_ix_nI (by omega) (by omega)) ?_
        rw [nI_clamp (by omega)]
        have e := inner 1000 (w k) G (by omega) (Nat.le_refl _) (by omega) ⟨h2.1, fun j hj => by
          rw [h2.2 j hj]
          congr 1
          dsimp only
          by_cases hc : j < w k
          · rw [if_pos hc, y_pC_eq w2 j, if_neg (by omega), Nat.add_zero]
          · rw [if_neg hc]⟩
        rw [← ew] at e
        exact e
  have first : ∀ m i G, i + m = s + 1 → (∀ k, k ≠ 100 → G k = g k) → (∀ j, j < i → G 100 j = lN 0) → x_J 77 (d + 1) (fun q h' => q = none ∧ ∃ G, h' = (f, G, x_HR r t, dm, n) ∧ x_tb g G (y_cnt w K) s) 3 [some (.ref 99), some (.ref 15), some (.int (nI K)), some (.int (nI s)), some (.int (nI i)), none, none] [] (f, G, x_HR r t, dm, n) 0 0 := by
    intro m
    induction m with
    | zero =>
      intro i G hi h1 h2
      refine x_wp_ok ok77 [3, 33, 53] 4 ?_
      refine And.intro (fun c => ?_) (fun c => ?_)
      · refine And.intro (x_ix_nI (j := 0) (by decide) (by decide)) ?_
        refine loop K 0 (x_up G 100 0 (lN 1)) none none (Nat.zero_add _) ⟨fun k hk => ?_, fun j hj => ?_⟩
        · rw [x_up_k hk]
          exact h1 k hk
        · show _ = lN (if j = 0 then 1 else 0)
          by_cases e : j = 0
          · subst e
            rw [x_up_s, if_pos rfl]
          · rw [x_up_j e, if_neg e]
            exact h2 j (by omega)
      · have c : ¬ nI s < nI i := c
        rw [nI_ltI (by omega) (by omega)] at c
        omega
    | succ m ih =>
      intro i G hi h1 h2
      refine x_wp_ok ok77 [3, 33, 53] 4 ?_
      refine And.intro (fun c => ?_) (fun c => ?_)
      · have c : nI s < nI i := c
        rw [nI_ltI (by omega) (by omega)] at c
        omega
      · refine And.intro (x_ix_nI (by omega) (by omega)) ?_
        rw [nI_clamp (by omega)]
        have e := ih (i + 1) (x_up G 100 i (lN 0)) (by omega) (fun k hk => by rw [x_up_k hk]; exact h1 k hk) (fun j hj => by
          by_cases e : j = i
          · subst e
            rw [x_up_s]
          · rw [x_up_j e]
            exact h2 j (by omega))
        rw [nI_succ i] at e
        exact e
  exact x_Ct_w (by decide) (Nat.le_of_ble_eq_true rfl) ok77 [3, 33, 53] 4 (first (s + 1) 0 g (Nat.zero_add _) (fun _ _ => rfl) (fun j hj => by omega))
theorem c_counts_16 {K s : Nat} {w : Nat → Nat} (hK : K ≤ 5) (hs : s ≤ 999) (hw : ∀ i, i < K → f 16 i = nI (w i) ∧ 1 ≤ w i ∧ w i ≤ 999) : x_Ct 77 (d + 1) [.ref 99, .ref 16, .int (nI K), .int (nI s)] (f, g, x_HR r t, dm, n) (fun q h' => q = none ∧ ∃ G, h' = (f, G, x_HR r t, dm, n) ∧ x_tb g G (y_cnt w K) s) := by
  have loop : ∀ m k G l5 l6, k + m = K → x_tb g G (y_cnt w k) s → x_J 77 (d + 1) (fun q h' => q = none ∧ ∃ G, h' = (f, G, x_HR r t, dm, n) ∧ x_tb g G (y_cnt w K) s) 33 [some (.ref 99), some (.ref 16), some (.int (nI K)), some (.int (nI s)), some (.int (nI k)), l5, l6] [] (f, G, x_HR r t, dm, n) 0 0 := by
    intro m
    induction m with
    | zero =>
      intro k G l5 l6 hk h2
      obtain rfl : k = K := by omega
      refine x_wp_ok ok77 [3, 33, 53] 4 ?_
      refine And.intro (fun c => ?_) (fun c => ?_)
      · exact And.intro ⟨rfl, G, rfl, h2⟩ ⟨trivial, Nat.le_refl _, Nat.le_refl _⟩
      · have c : ¬ nI k ≤ nI k := c
        rw [nI_leI (by omega) (by omega)] at c
        omega
    | succ m ih =>
      intro k G l5 l6 hk h2
      obtain ⟨w1, w2, w3⟩ := hw k (by omega)
      have ew : (if (1 : Int32) < f 16 k then f 16 k else 1) = nI (w k) := by rw [w1, x_max1_nI (by omega) w2]
      have inner : ∀ m' i G, s + 1 ≤ i + m' → w k ≤ i → i ≤ 1000 → x_tb g G (fun j => if j < i then y_pC (w k) (y_cnt w k) j else y_cnt w k j) s → x_J 77 (d + 1) (fun q h' => q = none ∧ ∃ G, h' = (f, G, x_HR r t, dm, n) ∧ x_tb g G (y_cnt w K) s) 53 [some (.ref 99), some (.ref 16), some (.int (nI K)), some (.int (nI s)), some (.int (nI k)), some (.int (nI (w k))), some (.int (nI i))] [] (f, G, x_HR r t, dm, n) 0 0 := by
        intro m'
        induction m' with
        | zero =>
          intro i G hi hi2 hi3 h5
          refine x_wp_ok ok77 [3, 33, 53] 4 ?_
          refine And.intro (fun c => ?_) (fun c => ?_)
          · have e := ih (k + 1) G (some (.int (nI (w k)))) (some (.int (nI i))) (by omega) ⟨h5.1, fun j hj => by rw [h5.2 j hj]; dsimp only; rw [if_pos (by omega)]; rfl⟩
            rw [nI_succ k] at e
            exact e
          · have c : ¬ nI s < nI i := c
            rw [nI_ltI (by omega) (by omega)] at c
            omega
        | succ m' ih' =>
          intro i G hi hi2 hi3 h5
          refine x_wp_ok ok77 [3, 33, 53] 4 ?_
          refine And.intro (fun c => ?_) (fun c => ?_)
          · have c : nI s < nI i := c
            rw [nI_ltI (by omega) (by omega)] at c
            have e := ih (k + 1) G (some (.int (nI (w k)))) (some (.int (nI i))) (by omega) ⟨h5.1, fun j hj => by rw [h5.2 j hj]; dsimp only; rw [if_pos (by omega)]; rfl⟩
            rw [nI_succ k] at e
            exact e
          · have c : ¬ nI s < nI i := c
            rw [nI_ltI (by omega) (by omega)] at c
            have g1 : G 100 (i - w k) = lN (y_pC (w k) (y_cnt w k) (i - w k)) := by rw [h5.2 _ (by omega)]; dsimp only; rw [if_pos (by omega)]
            have g2 : G 100 i = lN (y_cnt w k i) := by rw [h5.2 _ (by omega)]; dsimp only; rw [if_neg (by omega)]
            have eV := y_pC_eq (T := y_cnt w k) w2 i
            rw [if_pos hi2] at eV
            refine And.intro (x_ix_nI (by omega) (by omega)) ?_
            rw [nI_clamp (by omega)]
            refine And.intro (by show x_ix (nI i - nI (w k)) 1000; rw [pk_sub (by omega)]; exact x_ix_nI (by omega) (by omega)) ?_
            rw [pk_sub (by omega), nI_clamp (by omega)]
            refine And.intro (x_ix_nI (by omega) (by omega)) ?_
            rw [nI_clamp (by omega)]
            have e := ih' (i + 1) (x_up G 100 i (G 100 i + G 100 (i - w k))) (by omega) (by omega) (by omega) ⟨fun k hk => by rw [x_up_k hk]; exact h5.1 k hk, fun j hj => by
              by_cases hj1 : j = i
              · subst hj1
                dsimp only
                rw [x_up_s, if_pos (by omega), g1, g2, lN_add, eV]
              · rw [x_up_j hj1, h5.2 j hj]
                congr 1
                dsimp only
                by_cases hc : j < i
                · rw [if_pos hc, if_pos (by omega)]
                · rw [if_neg hc, if_neg (by omega)]⟩
            rw [nI_succ i] at e
            exact e
      refine x_wp_ok ok77 [3, 33, 53] 4 ?_
      refine And.intro (fun c => ?_) (fun c => ?_)
      · have c : nI K ≤ nI k := c
        rw [nI_leI (by omega) (by omega)] at c
        omega
      · refine And.intro (x_ix_nI (by omega) (by omega)) ?_
        rw [nI_clamp (by omega)]
        have e := inner 1000 (w k) G (by omega) (Nat.le_refl _) (by omega) ⟨h2.1, fun j hj => by
          rw [h2.2 j hj]
          congr 1
          dsimp only
          by_cases hc : j < w k
          · rw [if_pos hc, y_pC_eq w2 j, if_neg (by omega), Nat.add_zero]
          · rw [if_neg hc]⟩
        rw [← ew] at e
        exact e
  have first : ∀ m i G, i + m = s + 1 → (∀ k, k ≠ 100 → G k = g k) → (∀ j, j < i → G 100 j = lN 0) → x_J 77 (d + 1) (fun q h' => q = none ∧ ∃ G, h' = (f, G, x_HR r t, dm, n) ∧ x_tb g G (y_cnt w K) s) 3 [some (.ref 99), some (.ref 16), some (.int (nI K)), some (.int (nI s)), some (.int (nI i)), none, none] [] (f, G, x_HR r t, dm, n) 0 0 := by
    intro m
    induction m with
    | zero =>
      intro i G hi h1 h2
      refine x_wp_ok ok77 [3, 33, 53] 4 ?_
      refine And.intro (fun c => ?_) (fun c => ?_)
      · refine And.intro (x_ix_nI (j := 0) (by decide) (by decide)) ?_
        refine loop K 0 (x_up G 100 0 (lN 1)) none none (Nat.zero_add _) ⟨fun k hk => ?_, fun j hj => ?_⟩
        · rw [x_up_k hk]
          exact h1 k hk
        · show _ = lN (if j = 0 then 1 else 0)
          by_cases e : j = 0
          · subst e
            rw [x_up_s, if_pos rfl]
          · rw [x_up_j e, if_neg e]
            exact h2 j (by omega)
      · have c : ¬ nI s < nI i := c
        rw [nI_ltI (by omega) (by omega)] at c
        omega
    | succ m ih =>
      intro i G hi h1 h2
      refine x_wp_ok ok77 [3, 33, 53] 4 ?_
      refine And.intro (fun c => ?_) (fun c => ?_)
      · have c : nI s < nI i := c
        rw [nI_ltI (by omega) (by omega)] at c
        omega
      · refine And.intro (x_ix_nI (by omega) (by omega)) ?_
        rw [nI_clamp (by omega)]
        have e := ih (i + 1) (x_up G 100 i (lN 0)) (by omega) (fun k hk => by rw [x_up_k hk]; exact h1 k hk) (fun j hj => by
          by_cases e : j = i
          · subst e
            rw [x_up_s]
          · rw [x_up_j e]
            exact h2 j (by omega))
        rw [nI_succ i] at e
        exact e
  exact x_Ct_w (by decide) (Nat.le_of_ble_eq_true rfl) ok77 [3, 33, 53] 4 (first (s + 1) 0 g (Nat.zero_add _) (fun _ _ => rfl) (fun j hj => by omega))
theorem c_counts_25 {K s : Nat} {w : Nat → Nat} (hK : K ≤ 4) (hs : s ≤ 999) (hw : ∀ i, i < K → f 25 i = nI (w i) ∧ 1 ≤ w i ∧ w i ≤ 999) : x_Ct 77 (d + 1) [.ref 99, .ref 25, .int (nI K), .int (nI s)] (f, g, x_HR r t, dm, n) (fun q h' => q = none ∧ ∃ G, h' = (f, G, x_HR r t, dm, n) ∧ x_tb g G (y_cnt w K) s) := by
  have loop : ∀ m k G l5 l6, k + m = K → x_tb g G (y_cnt w k) s → x_J 77 (d + 1) (fun q h' => q = none ∧ ∃ G, h' = (f, G, x_HR r t, dm, n) ∧ x_tb g G (y_cnt w K) s) 33 [some (.ref 99), some (.ref 25), some (.int (nI K)), some (.int (nI s)), some (.int (nI k)), l5, l6] [] (f, G, x_HR r t, dm, n) 0 0 := by
    intro m
    induction m with
    | zero =>
      intro k G l5 l6 hk h2
      obtain rfl : k = K := by omega
      refine x_wp_ok ok77 [3, 33, 53] 4 ?_
      refine And.intro (fun c => ?_) (fun c => ?_)
      · exact And.intro ⟨rfl, G, rfl, h2⟩ ⟨trivial, Nat.le_refl _, Nat.le_refl _⟩
      · have c : ¬ nI k ≤ nI k := c
        rw [nI_leI (by omega) (by omega)] at c
        omega
    | succ m ih =>
      intro k G l5 l6 hk h2
      obtain ⟨w1, w2, w3⟩ := hw k (by omega)
      have ew : (if (1 : Int32) < f 25 k then f 25 k else 1) = nI (w k) := by rw [w1, x_max1_nI (by omega) w2]
      have inner : ∀ m' i G, s + 1 ≤ i + m' → w k ≤ i → i ≤ 1000 → x_tb g G (fun j => if j < i then y_pC (w k) (y_cnt w k) j else y_cnt w k j) s → x_J 77 (d + 1) (fun q h' => q = none ∧ ∃ G, h' = (f, G, x_HR r t, dm, n) ∧ x_tb g G (y_cnt w K) s) 53 [some (.ref 99), some (.ref 25), some (.int (nI K)), some (.int (nI s)), some (.int (nI k)), some (.int (nI (w k))), some (.int (nI i))] [] (f, G, x_HR r t, dm, n) 0 0 := by
        intro m'
        induction m' with
        | zero =>
          intro i G hi hi2 hi3 h5
          refine x_wp_ok ok77 [3, 33, 53] 4 ?_
          refine And.intro (fun c => ?_) (fun c => ?_)
          · have e := ih (k + 1) G (some (.int (nI (w k)))) (some (.int (nI i))) (by omega) ⟨h5.1, fun j hj => by rw [h5.2 j hj]; dsimp only; rw [if_pos (by omega)]; rfl⟩
            rw [nI_succ k] at e
            exact e
          · have c : ¬ nI s < nI i := c
            rw [nI_ltI (by omega) (by omega)] at c
            omega
        | succ m' ih' =>
          intro i G hi hi2 hi3 h5
          refine x_wp_ok ok77 [3, 33, 53] 4 ?_
          refine And.intro (fun c => ?_) (fun c => ?_)
          · have c : nI s < nI i := c
            rw [nI_ltI (by omega) (by omega)] at c
            have e := ih (k + 1) G (some (.int (nI (w k)))) (some (.int (nI i))) (by omega) ⟨h5.1, fun j hj => by rw [h5.2 j hj]; dsimp only; rw [if_pos (by omega)]; rfl⟩
            rw [nI_succ k] at e
            exact e
          · have c : ¬ nI s < nI i := c
            rw [nI_ltI (by omega) (by omega)] at c
            have g1 : G 100 (i - w k) = lN (y_pC (w k) (y_cnt w k) (i - w k)) := by rw [h5.2 _ (by omega)]; dsimp only; rw [if_pos (by omega)]
            have g2 : G 100 i = lN (y_cnt w k i) := by rw [h5.2 _ (by omega)]; dsimp only; rw [if_neg (by omega)]
            have eV := y_pC_eq (T := y_cnt w k) w2 i
            rw [if_pos hi2] at eV
            refine And.intro (x_ix_nI (by omega) (by omega)) ?_
            rw [nI_clamp (by omega)]
            refine And.intro (by show x_ix (nI i - nI (w k)) 1000; rw [pk_sub (by omega)]; exact x_ix_nI (by omega) (by omega)) ?_
            rw [pk_sub (by omega), nI_clamp (by omega)]
            refine And.intro (x_ix_nI (by omega) (by omega)) ?_
            rw [nI_clamp (by omega)]
            have e := ih' (i + 1) (x_up G 100 i (G 100 i + G 100 (i - w k))) (by omega) (by omega) (by omega) ⟨fun k hk => by rw [x_up_k hk]; exact h5.1 k hk, fun j hj => by
              by_cases hj1 : j = i
              · subst hj1
                dsimp only
                rw [x_up_s, if_pos (by omega), g1, g2, lN_add, eV]
              · rw [x_up_j hj1, h5.2 j hj]
                congr 1
                dsimp only
                by_cases hc : j < i
                · rw [if_pos hc, if_pos (by omega)]
                · rw [if_neg hc, if_neg (by omega)]⟩
            rw [nI_succ i] at e
            exact e
      refine x_wp_ok ok77 [3, 33, 53] 4 ?_
      refine And.intro (fun c => ?_) (fun c => ?_)
      · have c : nI K ≤ nI k := c
        rw [nI_leI (by omega) (by omega)] at c
        omega
      · refine And.intro (x_ix_nI (by omega) (by omega)) ?_
        rw [nI_clamp (by omega)]
        have e := inner 1000 (w k) G (by omega) (Nat.le_refl _) (by omega) ⟨h2.1, fun j hj => by
          rw [h2.2 j hj]
          congr 1
          dsimp only
          by_cases hc : j < w k
          · rw [if_pos hc, y_pC_eq w2 j, if_neg (by omega), Nat.add_zero]
          · rw [if_neg hc]⟩
        rw [← ew] at e
        exact e
  have first : ∀ m i G, i + m = s + 1 → (∀ k, k ≠ 100 → G k = g k) → (∀ j, j < i → G 100 j = lN 0) → x_J 77 (d + 1) (fun q h' => q = none ∧ ∃ G, h' = (f, G, x_HR r t, dm, n) ∧ x_tb g G (y_cnt w K) s) 3 [some (.ref 99), some (.ref 25), some (.int (nI K)), some (.int (nI s)), some (.int (nI i)), none, none] [] (f, G, x_HR r t, dm, n) 0 0 := by
    intro m
    induction m with
    | zero =>
      intro i G hi h1 h2
      refine x_wp_ok ok77 [3, 33, 53] 4 ?_
      refine And.intro (fun c => ?_) (fun c => ?_)
      · refine And.intro (x_ix_nI (j := 0) (by decide) (by decide)) ?_
        refine loop K 0 (x_up G 100 0 (lN 1)) none none (Nat.zero_add _) ⟨fun k hk => ?_, fun j hj => ?_⟩
        · rw [x_up_k hk]
          exact h1 k hk
        · show _ = lN (if j = 0 then 1 else 0)
          by_cases e : j = 0
          · subst e
            rw [x_up_s, if_pos rfl]
          · rw [x_up_j e, if_neg e]
            exact h2 j (by omega)
      · have c : ¬ nI s < nI i := c
        rw [nI_ltI (by omega) (by omega)] at c
        omega
    | succ m ih =>
      intro i G hi h1 h2
      refine x_wp_ok ok77 [3, 33, 53] 4 ?_
      refine And.intro (fun c => ?_) (fun c => ?_)
      · have c : nI s < nI i := c
        rw [nI_ltI (by omega) (by omega)] at c
        omega
      · refine And.intro (x_ix_nI (by omega) (by omega)) ?_
        rw [nI_clamp (by omega)]
        have e := ih (i + 1) (x_up G 100 i (lN 0)) (by omega) (fun k hk => by rw [x_up_k hk]; exact h1 k hk) (fun j hj => by
          by_cases e : j = i
          · subst e
            rw [x_up_s]
          · rw [x_up_j e]
            exact h2 j (by omega))
        rw [nI_succ i] at e
        exact e
  exact x_Ct_w (by decide) (Nat.le_of_ble_eq_true rfl) ok77 [3, 33, 53] 4 (first (s + 1) 0 g (Nat.zero_add _) (fun _ _ => rfl) (fun j hj => by omega))
theorem c_counts_26 {K s : Nat} {w : Nat → Nat} (hK : K ≤ 5) (hs : s ≤ 999) (hw : ∀ i, i < K → f 26 i = nI (w i) ∧ 1 ≤ w i ∧ w i ≤ 999) : x_Ct 77 (d + 1) [.ref 99, .ref 26, .int (nI K), .int (nI s)] (f, g, x_HR r t, dm, n) (fun q h' => q = none ∧ ∃ G, h' = (f, G, x_HR r t, dm, n) ∧ x_tb g G (y_cnt w K) s) := by
  have loop : ∀ m k G l5 l6, k + m = K → x_tb g G (y_cnt w k) s → x_J 77 (d + 1) (fun q h' => q = none ∧ ∃ G, h' = (f, G, x_HR r t, dm, n) ∧ x_tb g G (y_cnt w K) s) 33 [some (.ref 99), some (.ref 26), some (.int (nI K)), some (.int (nI s)), some (.int (nI k)), l5, l6] [] (f, G, x_HR r t, dm, n) 0 0 := by
    intro m
    induction m with
    | zero =>
      intro k G l5 l6 hk h2
      obtain rfl : k = K := by omega
      refine x_wp_ok ok77 [3, 33, 53] 4 ?_
      refine And.intro (fun c => ?_) (fun c => ?_)
      · exact And.intro ⟨rfl, G, rfl, h2⟩ ⟨trivial, Nat.le_refl _, Nat.le_refl _⟩
      · have c : ¬ nI k ≤ nI k := c
        rw [nI_leI (by omega) (by omega)] at c
        omega
    | succ m ih =>
      intro k G l5 l6 hk h2
      obtain ⟨w1, w2, w3⟩ := hw k (by omega)
      have ew : (if (1 : Int32) < f 26 k then f 26 k else 1) = nI (w k) := by rw [w1, x_max1_nI (by omega) w2]
      have inner : ∀ m' i G, s + 1 ≤ i + m' → w k ≤ i → i ≤ 1000 → x_tb g G (fun j => if j < i then y_pC (w k) (y_cnt w k) j else y_cnt w k j) s → x_J 77 (d + 1) (fun q h' => q = none ∧ ∃ G, h' = (f, G, x_HR r t, dm, n) ∧ x_tb g G (y_cnt w K) s) 53 [some (.ref 99), some (.ref 26), some (.int (nI K)), some (.int (nI s)), some (.int (nI k)), some (.int (nI (w k))), some (.int (nI i))] [] (f, G, x_HR r t, dm, n) 0 0 := by
        intro m'
        induction m' with
        | zero =>
          intro i G hi hi2 hi3 h5
          refine x_wp_ok ok77 [3, 33, 53] 4 ?_
          refine And.intro (fun c => ?_) (fun c => ?_)
          · have e := ih (k + 1) G (some (.int (nI (w k)))) (some (.int (nI i))) (by omega) ⟨h5.1, fun j hj => by rw [h5.2 j hj]; dsimp only; rw [if_pos (by omega)]; rfl⟩
            rw [nI_succ k] at e
            exact e
          · have c : ¬ nI s < nI i := c
            rw [nI_ltI (by omega) (by omega)] at c
            omega
        | succ m' ih' =>
          intro i G hi hi2 hi3 h5
          refine x_wp_ok ok77 [3, 33, 53] 4 ?_
          refine And.intro (fun c => ?_) (fun c => ?_)
          · have c : nI s < nI i := c
            rw [nI_ltI (by omega) (by omega)] at c
            have e := ih (k + 1) G (some (.int (nI (w k)))) (some (.int (nI i))) (by omega) ⟨h5.1, fun j hj => by rw [h5.2 j hj]; dsimp only; rw [if_pos (by omega)]; rfl⟩
            rw [nI_succ k] at e
            exact e
          · have c : ¬ nI s < nI i := c
            rw [nI_ltI (by omega) (by omega)] at c
            have g1 : G 100 (i - w k) = lN (y_pC (w k) (y_cnt w k) (i - w k)) := by rw [h5.2 _ (by omega)]; dsimp only; rw [if_pos (by omega)]
            have g2 : G 100 i = lN (y_cnt w k i) := by rw [h5.2 _ (by omega)]; dsimp only; rw [if_neg (by omega)]
            have eV := y_pC_eq (T := y_cnt w k) w2 i
            rw [if_pos hi2] at eV
            refine And.intro (x_ix_nI (by omega) (by omega)) ?_
            rw [nI_clamp (by omega)]
            refine And.intro (by show x_ix (nI i - nI (w k)) 1000; rw [pk_sub (by omega)]; exact x_ix_nI (by omega) (by omega)) ?_
            rw [pk_sub (by omega), nI_clamp (by omega)]
            refine And.intro (x_ix_nI (by omega) (by omega)) ?_
            rw [nI_clamp (by omega)]
            have e := ih' (i + 1) (x_up G 100 i (G 100 i + G 100 (i - w k))) (by omega) (by omega) (by omega) ⟨fun k hk => by rw [x_up_k hk]; exact h5.1 k hk, fun j hj => by
              by_cases hj1 : j = i
              · subst hj1
                dsimp only
                rw [x_up_s, if_pos (by omega), g1, g2, lN_add, eV]
              · rw [x_up_j hj1, h5.2 j hj]
                congr 1
                dsimp only
                by_cases hc : j < i
                · rw [if_pos hc, if_pos (by omega)]
                · rw [if_neg hc, if_neg (by omega)]⟩
            rw [nI_succ i] at e
            exact e
      refine x_wp_ok ok77 [3, 33, 53] 4 ?_
      refine And.intro (fun c => ?_) (fun c => ?_)
      · have c : nI K ≤ nI k := c
        rw [nI_leI (by omega) (by omega)] at c
        omega
      · refine And.intro (x_ix_nI (by omega) (by omega)) ?_
        rw [nI_clamp (by omega)]
        have e := inner 1000 (w k) G (by omega) (Nat.le_refl _) (by omega) ⟨h2.1, fun j hj => by
          rw [h2.2 j hj]
          congr 1
          dsimp only
          by_cases hc : j < w k
          · rw [if_pos hc, y_pC_eq w2 j, if_neg (by omega), Nat.add_zero]
          · rw [if_neg hc]⟩
        rw [← ew] at e
        exact e
  have first : ∀ m i G, i + m = s + 1 → (∀ k, k ≠ 100 → G k = g k) → (∀ j, j < i → G 100 j = lN 0) → x_J 77 (d + 1) (fun q h' => q = none ∧ ∃ G, h' = (f, G, x_HR r t, dm, n) ∧ x_tb g G (y_cnt w K) s) 3 [some (.ref 99), some (.ref 26), some (.int (nI K)), some (.int (nI s)), some (.int (nI i)), none, none] [] (f, G, x_HR r t, dm, n) 0 0 := by
    intro m
    induction m with
    | zero =>
      intro i G hi h1 h2
      refine x_wp_ok ok77 [3, 33, 53] 4 ?_
      refine And.intro (fun c => ?_) (fun c => ?_)
      · refine And.intro (x_ix_nI (j := 0) (by decide) (by decide)) ?_
        refine loop K 0 (x_up G 100 0 (lN 1)) none none (Nat.zero_add _) ⟨fun k hk => ?_, fun j hj => ?_⟩
        · rw [x_up_k hk]
          exact h1 k hk
        · show _ = lN (if j = 0 then 1 else 0)
          by_cases e : j = 0
          · subst e
            rw [x_up_s, if_pos rfl]
          · rw [x_up_j e, if_neg e]
            exact h2 j (by omega)
      · have c : ¬ nI s < nI i := c
        rw [nI_ltI (by omega) (by omega)] at c
        omega
    | succ m ih =>
      intro i G hi h1 h2
      refine x_wp_ok ok77 [3, 33, 53] 4 ?_
      refine And.intro (fun c => ?_) (fun c => ?_)
      · have c : nI s < nI i := c
        rw [nI_ltI (by omega) (by omega)] at c
        omega
      · refine And.intro (x_ix_nI (by omega) (by omega)) ?_
        rw [nI_clamp (by omega)]
        have e := ih (i + 1) (x_up G 100 i (lN 0)) (by omega) (fun k hk => by rw [x_up_k hk]; exact h1 k hk) (fun j hj => by
          by_cases e : j = i
          · subst e
            rw [x_up_s]
          · rw [x_up_j e]
            exact h2 j (by omega))
        rw [nI_succ i] at e
        exact e
  exact x_Ct_w (by decide) (Nat.le_of_ble_eq_true rfl) ok77 [3, 33, 53] 4 (first (s + 1) 0 g (Nat.zero_add _) (fun _ _ => rfl) (fun j hj => by omega))
theorem c_changes_12 {x : Int32} (hC : v_C f g 12 v) (hB : v_B v) : x_Ct 136 (d + 2) [.ref 0, .int x] (f, g, x_HR 12 t, dm, n) (x_PC f g 12 (x_HR 12 t) dm n (sp_changes v x)) := by
  have bK := v_B_K hB
  have bG := v_B_G hB
  have bP := v_B_P hB
  have o0 : v_ok v 0 0 0 := ⟨rfl, rfl⟩
  have h0 : f 12 0 = nI (v 0 0 0) := hC.1 0 0 0 o0
  have b0 : v 0 0 0 ≤ 4 := (hB.1 0 0 0 o0).2
  unfold sp_changes
  refine x_Ct_w (by decide) (Nat.le_of_ble_eq_true rfl) ok136 [] 4 ?_
  refine Exists.intro _ (And.intro c_isSum (And.intro (And.intro (Nat.zero_le _) (Nat.zero_le _)) (fun q h' hpo => ?_)))
  obtain ⟨rfl, rfl⟩ := hpo
  cases hy : x_wi x 0 999 with
  | false =>
    refine And.intro (fun c => absurd rfl c) (fun _ => ?_)
    refine Exists.intro _ (And.intro c_refuse (And.intro (And.intro (Nat.zero_le _) (Nat.zero_le _)) (fun q h' hpo => ?_)))
    obtain ⟨rfl, rfl⟩ := hpo
    refine And.intro ?_ ⟨trivial, Nat.le_refl _, Nat.le_refl _⟩
    exact x_PC_0 (by decide) hC
  | true =>
    refine And.intro (fun _ => ?_) (fun c => absurd c (by decide))
    obtain ⟨s, hs1, hs, rfl⟩ := x_wi_t (lo := 0) (hi := 999) hy (by decide) (by decide)
    rw [x_c, nI_clamp (by omega)]
    have cf := c_counts_15 (f := x_up f 0 0 0) (g := g) (d := d) (r := 12) (t := t) (dm := dm) (n := n) (w := v_w v) bK hs (fun i hi => ⟨hC.1 9 i 0 (show i < v 0 0 0 ∧ 0 = 0 from ⟨hi, rfl⟩), v_w_1 hB i hi, by have := v_w_500 hB i hi; omega⟩)
    rw [← h0] at cf
    refine Exists.intro _ (And.intro cf (And.intro (And.intro (Nat.zero_le _) (Nat.zero_le _)) (fun q h' hpo => ?_)))
    obtain ⟨rfl, G, rfl, t1⟩ := hpo
    have hL := x_LC_G (L := 12) (by decide) t1.1 hC
    refine And.intro (x_ix_nI (by omega) (by omega)) ?_
    rw [nI_clamp (by omega)]
    refine And.intro ?_ ⟨trivial, Nat.le_refl _, Nat.le_refl _⟩
    rw [← t1.2 s (Nat.le_refl _)]
    exact x_PC_L (by decide) hL
theorem c_baskets_12 {x : Int32} (hC : v_C f g 12 v) (hB : v_B v) : x_Ct 138 (d + 2) [.ref 0, .int x] (f, g, x_HR 12 t, dm, n) (x_PC f g 12 (x_HR 12 t) dm n (sp_baskets v x)) := by
  have bK := v_B_K hB
  have bG := v_B_G hB
  have bP := v_B_P hB
  have o1 : v_ok v 1 0 0 := ⟨rfl, rfl⟩
  have h1 : f 12 1 = nI (v 1 0 0) := hC.1 1 0 0 o1
  have b1 : v 1 0 0 ≤ 5 := (hB.1 1 0 0 o1).2
  have o7 : v_ok v 7 0 0 := ⟨rfl, rfl⟩
  have h7 : f 12 4 = nI (v 7 0 0) := hC.1 7 0 0 o7
  have b7 : v 7 0 0 ≤ 21000000 := (hB.1 7 0 0 o7).2
  have l7 : 1 ≤ v 7 0 0 := (hB.1 7 0 0 o7).1
  unfold sp_baskets
  have e7 : (if (1 : Int32) < f 12 4 then f 12 4 else 1) = nI (v 7 0 0) := by rw [h7, x_max1_nI (by omega) l7]
  refine x_Ct_w (by decide) (Nat.le_of_ble_eq_true rfl) ok138 [] 6 ?_
  refine Exists.intro _ (And.intro c_isSum (And.intro (And.intro (Nat.zero_le _) (Nat.zero_le _)) (fun q h' hpo => ?_)))
  obtain ⟨rfl, rfl⟩ := hpo
  cases hy : x_wi x 0 999 with
  | false =>
    refine And.intro (fun c => absurd rfl c) (fun _ => ?_)
    refine Exists.intro _ (And.intro c_refuse (And.intro (And.intro (Nat.zero_le _) (Nat.zero_le _)) (fun q h' hpo => ?_)))
    obtain ⟨rfl, rfl⟩ := hpo
    refine And.intro ?_ ⟨trivial, Nat.le_refl _, Nat.le_refl _⟩
    exact x_PC_0 (by decide) hC
  | true =>
    refine And.intro (fun _ => ?_) (fun c => absurd c (by decide))
    obtain ⟨s, hs1, hs, rfl⟩ := x_wi_t (lo := 0) (hi := 999) hy (by decide) (by decide)
    rw [x_c, nI_clamp (by omega)]
    have hd : s / v 7 0 0 ≤ s := Nat.div_le_self _ _
    have ed : nI s / (if (1 : Int32) < f 12 4 then f 12 4 else 1) = nI (s / v 7 0 0) := by rw [e7, pk_div (by omega) (by omega) (by omega)]
    have hne : ¬ (if (1 : Int32) < f 12 4 then f 12 4 else 1) = 0 := by rw [e7]; exact x_ne0 (by omega) l7
    refine And.intro hne ?_
    refine And.intro (fun c => ?_) (fun c => ?_)
    · have c : nI s - nI s / (if (1 : Int32) < f 12 4 then f 12 4 else 1) * (if (1 : Int32) < f 12 4 then f 12 4 else 1) = nI 0 := c
      have hml : s % v 7 0 0 ≤ s := Nat.mod_le _ _
      rw [e7, pk_rem (by omega) (by omega) (by omega), nI_eq (by omega) (by decide)] at c
      rw [if_pos c]
      have cf := c_counts_16 (f := x_up f 0 0 0) (g := g) (d := d) (r := 12) (t := t) (dm := dm) (n := n) (w := v_val v) (s := s / v 7 0 0) bG (by omega) (fun i hi => ⟨hC.1 10 i 0 (show i < v 1 0 0 ∧ 0 = 0 from ⟨hi, rfl⟩), v_val_1 hB i hi, by have := v_val_99 hB i hi; omega⟩)
      rw [← h1, ← ed] at cf
      refine And.intro hne ?_
      refine Exists.intro _ (And.intro cf (And.intro (And.intro (Nat.zero_le _) (Nat.zero_le _)) (fun q h' hpo => ?_)))
      obtain ⟨rfl, G, rfl, t1⟩ := hpo
      have hL := x_LC_G (L := 12) (by decide) t1.1 hC
      refine And.intro hne ?_
      refine And.intro (by show x_ix (nI s / (if (1 : Int32) < f 12 4 then f 12 4 else 1)) 1000; rw [ed]; exact x_ix_nI (by omega) (by omega)) ?_
      refine And.intro ?_ ⟨trivial, Nat.le_refl _, Nat.le_refl _⟩
      rw [← t1.2 (s / v 7 0 0) (Nat.le_refl _), ← nI_clamp (show s / v 7 0 0 < 2 ^ 31 by omega), ← ed]
      exact x_PC_L (by decide) hL
    · have c : ¬ nI s - nI s / (if (1 : Int32) < f 12 4 then f 12 4 else 1) * (if (1 : Int32) < f 12 4 then f 12 4 else 1) = nI 0 := c
      have hml : s % v 7 0 0 ≤ s := Nat.mod_le _ _
      rw [e7, pk_rem (by omega) (by omega) (by omega), nI_eq (by omega) (by decide)] at c
      rw [if_neg c]
      refine And.intro ?_ ⟨trivial, Nat.le_refl _, Nat.le_refl _⟩
      exact x_PC_0 (by decide) hC
theorem c_mostValue_12 {x : Int32} (hC : v_C f g 12 v) (hB : v_B v) : x_Ct 139 (d + 2) [.ref 0, .int x] (f, g, x_HR 12 t, dm, n) (x_PC f g 12 (x_HR 12 t) dm n (sp_mostValue v x)) := by
  have bK := v_B_K hB
  have bG := v_B_G hB
  have bP := v_B_P hB
  have o1 : v_ok v 1 0 0 := ⟨rfl, rfl⟩
  have h1 : f 12 1 = nI (v 1 0 0) := hC.1 1 0 0 o1
  have b1 : v 1 0 0 ≤ 5 := (hB.1 1 0 0 o1).2
  have o7 : v_ok v 7 0 0 := ⟨rfl, rfl⟩
  have h7 : f 12 4 = nI (v 7 0 0) := hC.1 7 0 0 o7
  have b7 : v 7 0 0 ≤ 21000000 := (hB.1 7 0 0 o7).2
  have l7 : 1 ≤ v 7 0 0 := (hB.1 7 0 0 o7).1
  unfold sp_mostValue
  have e7 : (if (1 : Int32) < f 12 4 then f 12 4 else 1) = nI (v 7 0 0) := by rw [h7, x_max1_nI (by omega) l7]
  refine x_Ct_w (by decide) (Nat.le_of_ble_eq_true rfl) ok139 [49] 6 ?_
  refine Exists.intro _ (And.intro c_isSum (And.intro (And.intro (Nat.zero_le _) (Nat.zero_le _)) (fun q h' hpo => ?_)))
  obtain ⟨rfl, rfl⟩ := hpo
  cases hy : x_wi x 0 999 with
  | false =>
    refine And.intro (fun c => absurd rfl c) (fun _ => ?_)
    refine Exists.intro _ (And.intro c_refuse (And.intro (And.intro (Nat.zero_le _) (Nat.zero_le _)) (fun q h' hpo => ?_)))
    obtain ⟨rfl, rfl⟩ := hpo
    refine And.intro ?_ ⟨trivial, Nat.le_refl _, Nat.le_refl _⟩
    exact x_PC_0 (by decide) hC
  | true =>
    refine And.intro (fun _ => ?_) (fun c => absurd c (by decide))
    obtain ⟨s, hs1, hs, rfl⟩ := x_wi_t (lo := 0) (hi := 999) hy (by decide) (by decide)
    rw [x_c, nI_clamp (by omega)]
    have hd : s / v 7 0 0 ≤ s := Nat.div_le_self _ _
    have ed : nI s / (if (1 : Int32) < f 12 4 then f 12 4 else 1) = nI (s / v 7 0 0) := by rw [e7, pk_div (by omega) (by omega) (by omega)]
    have hne : ¬ (if (1 : Int32) < f 12 4 then f 12 4 else 1) = 0 := by rw [e7]; exact x_ne0 (by omega) l7
    refine And.intro hne ?_
    have cf := c_counts_16 (f := f) (g := g) (d := d) (r := 12) (t := t) (dm := dm) (n := n) (w := v_val v) (s := s / v 7 0 0) bG (by omega) (fun i hi => ⟨hC.1 10 i 0 (show i < v 1 0 0 ∧ 0 = 0 from ⟨hi, rfl⟩), v_val_1 hB i hi, by have := v_val_99 hB i hi; omega⟩)
    rw [← h1, ← ed] at cf
    refine Exists.intro _ (And.intro cf (And.intro (And.intro (Nat.zero_le _) (Nat.zero_le _)) (fun q h' hpo => ?_)))
    obtain ⟨rfl, G, rfl, t1⟩ := hpo
    have hL := x_LC_G (L := 12) (by decide) t1.1 hC
    have loop : ∀ u, u ≤ s / v 7 0 0 → x_J 139 (d + 2) (x_PC f g 12 (x_HR 12 t) dm n (.int (nI (y_top (y_P (v_val v) (v 1 0 0)) u)), 0, v)) 49 [some (.ref 0), some (.int (nI s)), some (.int (nI u))] [] (f, G, x_HR 12 t, dm, n) 0 0 := by
      intro u
      induction u with
      | zero =>
        intro hu
        refine x_wp_ok ok139 [49] 6 ?_
        refine And.intro (fun c => ?_) (fun c => ?_)
        · refine Exists.intro _ (And.intro c_answer (And.intro (And.intro (Nat.zero_le _) (Nat.zero_le _)) (fun q h' hpo => ?_)))
          obtain ⟨rfl, rfl⟩ := hpo
          refine And.intro ?_ ⟨trivial, Nat.le_refl _, Nat.le_refl _⟩
          exact x_PC_L (by decide) hL
        · exact absurd (show nI 0 ≤ nI 0 by decide) c
      | succ u ih =>
        intro hu
        have hc := y_cnt_le (w := v_val v) (v 1 0 0) (u + 1) (v_val_1 hB) (by omega)
        have hc2 : (1000 : Nat) ^ (v 1 0 0) ≤ 1000 ^ 5 := Nat.pow_le_pow_right (by decide) bG
        have hc3 : y_cnt (v_val v) (v 1 0 0) (u + 1) < 2 ^ 63 := Nat.lt_of_le_of_lt (Nat.le_trans hc hc2) (by decide)
        refine x_wp_ok ok139 [49] 6 ?_
        refine And.intro (fun c => ?_) (fun c => ?_)
        · have c : nI (u + 1) ≤ nI 0 := c
          rw [nI_leI (by omega) (by decide)] at c
          omega
        · rw [show y_top (y_P (v_val v) (v 1 0 0)) (u + 1) = if y_P (v_val v) (v 1 0 0) (u + 1) then u + 1 else y_top (y_P (v_val v) (v 1 0 0)) u from rfl]
          refine And.intro (x_ix_nI (by omega) (by omega)) ?_
          rw [nI_clamp (by omega)]
          refine And.intro (fun c2 => ?_) (fun c2 => ?_)
          · have c2 : ¬ lg_cmp (G 100 (u + 1)) (lN 0) = 0 := c2
            rw [x_lg_eq, t1.2 _ hu, pk_lEQ hc3 (by decide)] at c2
            rw [if_pos (show y_P (v_val v) (v 1 0 0) (u + 1) = true from decide_eq_true (by omega))]
            refine Exists.intro _ (And.intro c_answer (And.intro (And.intro (Nat.zero_le _) (Nat.zero_le _)) (fun q h' hpo => ?_)))
            obtain ⟨rfl, rfl⟩ := hpo
            refine And.intro ?_ ⟨trivial, Nat.le_refl _, Nat.le_refl _⟩
            exact x_PC_L (by decide) hL
          · have c2 : lg_cmp (G 100 (u + 1)) (lN 0) = 0 := c2
            rw [x_lg_eq, t1.2 _ hu, pk_lEQ hc3 (by decide)] at c2
            rw [if_neg (by unfold y_P; rw [decide_eq_false (by omega)]; decide)]
            have e := ih (by omega)
            generalize y_top (y_P (v_val v) (v 1 0 0)) u = W at e ⊢
            rw [← pk_m1 u] at e
            exact e
    have e := loop (s / v 7 0 0) (Nat.le_refl _)
    generalize y_top (y_P (v_val v) (v 1 0 0)) (s / v 7 0 0) = W at e ⊢
    rw [← ed] at e
    exact e
theorem c_changes_22 {x : Int32} (hC : v_C f g 22 v) (hB : v_B v) : x_Ct 136 (d + 2) [.ref 0, .int x] (f, g, x_HR 22 t, dm, n) (x_PC f g 22 (x_HR 22 t) dm n (sp_changes v x)) := by
  have bK := v_B_K hB
  have bG := v_B_G hB
  have bP := v_B_P hB
  have o0 : v_ok v 0 0 0 := ⟨rfl, rfl⟩
  have h0 : f 22 0 = nI (v 0 0 0) := hC.1 0 0 0 o0
  have b0 : v 0 0 0 ≤ 4 := (hB.1 0 0 0 o0).2
  unfold sp_changes
  refine x_Ct_w (by decide) (Nat.le_of_ble_eq_true rfl) ok136 [] 4 ?_
  refine Exists.intro _ (And.intro c_isSum (And.intro (And.intro (Nat.zero_le _) (Nat.zero_le _)) (fun q h' hpo => ?_)))
  obtain ⟨rfl, rfl⟩ := hpo
  cases hy : x_wi x 0 999 with
  | false =>
    refine And.intro (fun c => absurd rfl c) (fun _ => ?_)
    refine Exists.intro _ (And.intro c_refuse (And.intro (And.intro (Nat.zero_le _) (Nat.zero_le _)) (fun q h' hpo => ?_)))
    obtain ⟨rfl, rfl⟩ := hpo
    refine And.intro ?_ ⟨trivial, Nat.le_refl _, Nat.le_refl _⟩
    exact x_PC_0 (by decide) hC
  | true =>
    refine And.intro (fun _ => ?_) (fun c => absurd c (by decide))
    obtain ⟨s, hs1, hs, rfl⟩ := x_wi_t (lo := 0) (hi := 999) hy (by decide) (by decide)
    rw [x_c, nI_clamp (by omega)]
    have cf := c_counts_25 (f := x_up f 0 0 0) (g := g) (d := d) (r := 22) (t := t) (dm := dm) (n := n) (w := v_w v) bK hs (fun i hi => ⟨hC.1 9 i 0 (show i < v 0 0 0 ∧ 0 = 0 from ⟨hi, rfl⟩), v_w_1 hB i hi, by have := v_w_500 hB i hi; omega⟩)
    rw [← h0] at cf
    refine Exists.intro _ (And.intro cf (And.intro (And.intro (Nat.zero_le _) (Nat.zero_le _)) (fun q h' hpo => ?_)))
    obtain ⟨rfl, G, rfl, t1⟩ := hpo
    have hL := x_LC_G (L := 22) (by decide) t1.1 hC
    refine And.intro (x_ix_nI (by omega) (by omega)) ?_
    rw [nI_clamp (by omega)]
    refine And.intro ?_ ⟨trivial, Nat.le_refl _, Nat.le_refl _⟩
    rw [← t1.2 s (Nat.le_refl _)]
    exact x_PC_L (by decide) hL
theorem c_baskets_22 {x : Int32} (hC : v_C f g 22 v) (hB : v_B v) : x_Ct 138 (d + 2) [.ref 0, .int x] (f, g, x_HR 22 t, dm, n) (x_PC f g 22 (x_HR 22 t) dm n (sp_baskets v x)) := by
  have bK := v_B_K hB
  have bG := v_B_G hB
  have bP := v_B_P hB
  have o1 : v_ok v 1 0 0 := ⟨rfl, rfl⟩
  have h1 : f 22 1 = nI (v 1 0 0) := hC.1 1 0 0 o1
  have b1 : v 1 0 0 ≤ 5 := (hB.1 1 0 0 o1).2
  have o7 : v_ok v 7 0 0 := ⟨rfl, rfl⟩
  have h7 : f 22 4 = nI (v 7 0 0) := hC.1 7 0 0 o7
  have b7 : v 7 0 0 ≤ 21000000 := (hB.1 7 0 0 o7).2
  have l7 : 1 ≤ v 7 0 0 := (hB.1 7 0 0 o7).1
  unfold sp_baskets
  have e7 : (if (1 : Int32) < f 22 4 then f 22 4 else 1) = nI (v 7 0 0) := by rw [h7, x_max1_nI (by omega) l7]
  refine x_Ct_w (by decide) (Nat.le_of_ble_eq_true rfl) ok138 [] 6 ?_
  refine Exists.intro _ (And.intro c_isSum (And.intro (And.intro (Nat.zero_le _) (Nat.zero_le _)) (fun q h' hpo => ?_)))
  obtain ⟨rfl, rfl⟩ := hpo
  cases hy : x_wi x 0 999 with
  | false =>
    refine And.intro (fun c => absurd rfl c) (fun _ => ?_)
    refine Exists.intro _ (And.intro c_refuse (And.intro (And.intro (Nat.zero_le _) (Nat.zero_le _)) (fun q h' hpo => ?_)))
    obtain ⟨rfl, rfl⟩ := hpo
    refine And.intro ?_ ⟨trivial, Nat.le_refl _, Nat.le_refl _⟩
    exact x_PC_0 (by decide) hC
  | true =>
    refine And.intro (fun _ => ?_) (fun c => absurd c (by decide))
    obtain ⟨s, hs1, hs, rfl⟩ := x_wi_t (lo := 0) (hi := 999) hy (by decide) (by decide)
    rw [x_c, nI_clamp (by omega)]
    have hd : s / v 7 0 0 ≤ s := Nat.div_le_self _ _
    have ed : nI s / (if (1 : Int32) < f 22 4 then f 22 4 else 1) = nI (s / v 7 0 0) := by rw [e7, pk_div (by omega) (by omega) (by omega)]
    have hne : ¬ (if (1 : Int32) < f 22 4 then f 22 4 else 1) = 0 := by rw [e7]; exact x_ne0 (by omega) l7
    refine And.intro hne ?_
    refine And.intro (fun c => ?_) (fun c => ?_)
    · have c : nI s - nI s / (if (1 : Int32) < f 22 4 then f 22 4 else 1) * (if (1 : Int32) < f 22 4 then f 22 4 else 1) = nI 0 := c
      have hml : s % v 7 0 0 ≤ s := Nat.mod_le _ _
      rw [e7, pk_rem (by omega) (by omega) (by omega), nI_eq (by omega) (by decide)] at c
      rw [if_pos c]
      have cf := c_counts_26 (f := x_up f 0 0 0) (g := g) (d := d) (r := 22) (t := t) (dm := dm) (n := n) (w := v_val v) (s := s / v 7 0 0) bG (by omega) (fun i hi => ⟨hC.1 10 i 0 (show i < v 1 0 0 ∧ 0 = 0 from ⟨hi, rfl⟩), v_val_1 hB i hi, by have := v_val_99 hB i hi; omega⟩)
      rw [← h1, ← ed] at cf
      refine And.intro hne ?_
      refine Exists.intro _ (And.intro cf (And.intro (And.intro (Nat.zero_le _) (Nat.zero_le _)) (fun q h' hpo => ?_)))
      obtain ⟨rfl, G, rfl, t1⟩ := hpo
      have hL := x_LC_G (L := 22) (by decide) t1.1 hC
      refine And.intro hne ?_
      refine And.intro (by show x_ix (nI s / (if (1 : Int32) < f 22 4 then f 22 4 else 1)) 1000; rw [ed]; exact x_ix_nI (by omega) (by omega)) ?_
      refine And.intro ?_ ⟨trivial, Nat.le_refl _, Nat.le_refl _⟩
      rw [← t1.2 (s / v 7 0 0) (Nat.le_refl _), ← nI_clamp (show s / v 7 0 0 < 2 ^ 31 by omega), ← ed]
      exact x_PC_L (by decide) hL
    · have c : ¬ nI s - nI s / (if (1 : Int32) < f 22 4 then f 22 4 else 1) * (if (1 : Int32) < f 22 4 then f 22 4 else 1) = nI 0 := c
      have hml : s % v 7 0 0 ≤ s := Nat.mod_le _ _
      rw [e7, pk_rem (by omega) (by omega) (by omega), nI_eq (by omega) (by decide)] at c
      rw [if_neg c]
      refine And.intro ?_ ⟨trivial, Nat.le_refl _, Nat.le_refl _⟩
      exact x_PC_0 (by decide) hC
theorem c_mostValue_22 {x : Int32} (hC : v_C f g 22 v) (hB : v_B v) : x_Ct 139 (d + 2) [.ref 0, .int x] (f, g, x_HR 22 t, dm, n) (x_PC f g 22 (x_HR 22 t) dm n (sp_mostValue v x)) := by
  have bK := v_B_K hB
  have bG := v_B_G hB
  have bP := v_B_P hB
  have o1 : v_ok v 1 0 0 := ⟨rfl, rfl⟩
  have h1 : f 22 1 = nI (v 1 0 0) := hC.1 1 0 0 o1
  have b1 : v 1 0 0 ≤ 5 := (hB.1 1 0 0 o1).2
  have o7 : v_ok v 7 0 0 := ⟨rfl, rfl⟩
  have h7 : f 22 4 = nI (v 7 0 0) := hC.1 7 0 0 o7
  have b7 : v 7 0 0 ≤ 21000000 := (hB.1 7 0 0 o7).2
  have l7 : 1 ≤ v 7 0 0 := (hB.1 7 0 0 o7).1
  unfold sp_mostValue
  have e7 : (if (1 : Int32) < f 22 4 then f 22 4 else 1) = nI (v 7 0 0) := by rw [h7, x_max1_nI (by omega) l7]
  refine x_Ct_w (by decide) (Nat.le_of_ble_eq_true rfl) ok139 [49] 6 ?_
  refine Exists.intro _ (And.intro c_isSum (And.intro (And.intro (Nat.zero_le _) (Nat.zero_le _)) (fun q h' hpo => ?_)))
  obtain ⟨rfl, rfl⟩ := hpo
  cases hy : x_wi x 0 999 with
  | false =>
    refine And.intro (fun c => absurd rfl c) (fun _ => ?_)
    refine Exists.intro _ (And.intro c_refuse (And.intro (And.intro (Nat.zero_le _) (Nat.zero_le _)) (fun q h' hpo => ?_)))
    obtain ⟨rfl, rfl⟩ := hpo
    refine And.intro ?_ ⟨trivial, Nat.le_refl _, Nat.le_refl _⟩
    exact x_PC_0 (by decide) hC
  | true =>
    refine And.intro (fun _ => ?_) (fun c => absurd c (by decide))
    obtain ⟨s, hs1, hs, rfl⟩ := x_wi_t (lo := 0) (hi := 999) hy (by decide) (by decide)
    rw [x_c, nI_clamp (by omega)]
    have hd : s / v 7 0 0 ≤ s := Nat.div_le_self _ _
    have ed : nI s / (if (1 : Int32) < f 22 4 then f 22 4 else 1) = nI (s / v 7 0 0) := by rw [e7, pk_div (by omega) (by omega) (by omega)]
    have hne : ¬ (if (1 : Int32) < f 22 4 then f 22 4 else 1) = 0 := by rw [e7]; exact x_ne0 (by omega) l7
    refine And.intro hne ?_
    have cf := c_counts_26 (f := f) (g := g) (d := d) (r := 22) (t := t) (dm := dm) (n := n) (w := v_val v) (s := s / v 7 0 0) bG (by omega) (fun i hi => ⟨hC.1 10 i 0 (show i < v 1 0 0 ∧ 0 = 0 from ⟨hi, rfl⟩), v_val_1 hB i hi, by have := v_val_99 hB i hi; omega⟩)
    rw [← h1, ← ed] at cf
    refine Exists.intro _ (And.intro cf (And.intro (And.intro (Nat.zero_le _) (Nat.zero_le _)) (fun q h' hpo => ?_)))
    obtain ⟨rfl, G, rfl, t1⟩ := hpo
    have hL := x_LC_G (L := 22) (by decide) t1.1 hC
    have loop : ∀ u, u ≤ s / v 7 0 0 → x_J 139 (d + 2) (x_PC f g 22 (x_HR 22 t) dm n (.int (nI (y_top (y_P (v_val v) (v 1 0 0)) u)), 0, v)) 49 [some (.ref 0), some (.int (nI s)), some (.int (nI u))] [] (f, G, x_HR 22 t, dm, n) 0 0 := by
      intro u
      induction u with
      | zero =>
        intro hu
        refine x_wp_ok ok139 [49] 6 ?_
        refine And.intro (fun c => ?_) (fun c => ?_)
        · refine Exists.intro _ (And.intro c_answer (And.intro (And.intro (Nat.zero_le _) (Nat.zero_le _)) (fun q h' hpo => ?_)))
          obtain ⟨rfl, rfl⟩ := hpo
          refine And.intro ?_ ⟨trivial, Nat.le_refl _, Nat.le_refl _⟩
          exact x_PC_L (by decide) hL
        · exact absurd (show nI 0 ≤ nI 0 by decide) c
      | succ u ih =>
        intro hu
        have hc := y_cnt_le (w := v_val v) (v 1 0 0) (u + 1) (v_val_1 hB) (by omega)
        have hc2 : (1000 : Nat) ^ (v 1 0 0) ≤ 1000 ^ 5 := Nat.pow_le_pow_right (by decide) bG
        have hc3 : y_cnt (v_val v) (v 1 0 0) (u + 1) < 2 ^ 63 := Nat.lt_of_le_of_lt (Nat.le_trans hc hc2) (by decide)
        refine x_wp_ok ok139 [49] 6 ?_
        refine And.intro (fun c => ?_) (fun c => ?_)
        · have c : nI (u + 1) ≤ nI 0 := c
          rw [nI_leI (by omega) (by decide)] at c
          omega
        · rw [show y_top (y_P (v_val v) (v 1 0 0)) (u + 1) = if y_P (v_val v) (v 1 0 0) (u + 1) then u + 1 else y_top (y_P (v_val v) (v 1 0 0)) u from rfl]
          refine And.intro (x_ix_nI (by omega) (by omega)) ?_
          rw [nI_clamp (by omega)]
          refine And.intro (fun c2 => ?_) (fun c2 => ?_)
          · have c2 : ¬ lg_cmp (G 100 (u + 1)) (lN 0) = 0 := c2
            rw [x_lg_eq, t1.2 _ hu, pk_lEQ hc3 (by decide)] at c2
            rw [if_pos (show y_P (v_val v) (v 1 0 0) (u + 1) = true from decide_eq_true (by omega))]
            refine Exists.intro _ (And.intro c_answer (And.intro (And.intro (Nat.zero_le _) (Nat.zero_le _)) (fun q h' hpo => ?_)))
            obtain ⟨rfl, rfl⟩ := hpo
            refine And.intro ?_ ⟨trivial, Nat.le_refl _, Nat.le_refl _⟩
            exact x_PC_L (by decide) hL
          · have c2 : lg_cmp (G 100 (u + 1)) (lN 0) = 0 := c2
            rw [x_lg_eq, t1.2 _ hu, pk_lEQ hc3 (by decide)] at c2
            rw [if_neg (by unfold y_P; rw [decide_eq_false (by omega)]; decide)]
            have e := ih (by omega)
            generalize y_top (y_P (v_val v) (v 1 0 0)) u = W at e ⊢
            rw [← pk_m1 u] at e
            exact e
    have e := loop (s / v 7 0 0) (Nat.le_refl _)
    generalize y_top (y_P (v_val v) (v 1 0 0)) (s / v 7 0 0) = W at e ⊢
    rw [← ed] at e
    exact e
end C39
