/-! PLANS -/
def y_mn (h : Nat → Nat) : Nat → Nat
  | 0 => h 0
  | i + 1 => min (y_mn h i) (h (i + 1))
def y_am (h : Nat → Nat) : Nat → Nat
  | 0 => 0
  | i + 1 => if h (i + 1) < y_mn h i then i + 1 else y_am h i
theorem y_am_le (h : Nat → Nat) : ∀ i, y_am h i ≤ i
  | 0 => Nat.le_refl _
  | i + 1 => by
    have := y_am_le h i
    unfold y_am
    split <;> omega
theorem y_am_ok (h : Nat → Nat) : ∀ i, h (y_am h i) = y_mn h i ∧ ∀ j, j < y_am h i → y_mn h i < h j
  | 0 => ⟨rfl, fun j hj => absurd hj (Nat.not_lt_zero _)⟩
  | i + 1 => by
    obtain ⟨h1, h2⟩ := y_am_ok h i
    by_cases hc : h (i + 1) < y_mn h i
    · have e1 : y_am h (i + 1) = i + 1 := if_pos hc
      have e2 : y_mn h (i + 1) = h (i + 1) := Nat.min_eq_right (by omega)
      rw [e1, e2]
      refine ⟨rfl, fun j hj => ?_⟩
      have : ∀ k, j ≤ k → y_mn h k ≤ h j := by
        intro k
        induction k with
        | zero => intro hk; obtain rfl : j = 0 := by omega
                  exact Nat.le_refl _
        | succ k ih =>
          intro hk
          by_cases e : j = k + 1
          · subst e
            exact Nat.min_le_right _ _
          · exact Nat.le_trans (Nat.min_le_left _ _) (ih (by omega))
      have := this i (by omega)
      omega
    · have e1 : y_am h (i + 1) = y_am h i := if_neg hc
      have e2 : y_mn h (i + 1) = y_mn h i := Nat.min_eq_left (by omega)
      rw [e1, e2]
      exact ⟨h1, h2⟩
theorem y_mn_at (h : Nat → Nat) : ∀ n i, i ≤ n → y_mn h n ≤ h i
  | 0, i, hi => by obtain rfl : i = 0 := by omega
                   exact Nat.le_refl _
  | n + 1, i, hi => by
    by_cases e : i = n + 1
    · subst e
      exact Nat.min_le_right _ _
    · exact Nat.le_trans (Nat.min_le_left _ _) (y_mn_at h n i (by omega))
theorem y_mn_cg {h h' : Nat → Nat} : ∀ n, (∀ i, i ≤ n → h i = h' i) → y_mn h n = y_mn h' n
  | 0, e => e 0 (Nat.le_refl _)
  | n + 1, e => by
    show min _ _ = min _ _
    rw [y_mn_cg n (fun i hi => e i (by omega)), e (n + 1) (Nat.le_refl _)]
theorem y_am_cg {h h' : Nat → Nat} : ∀ n, (∀ i, i ≤ n → h i = h' i) → y_am h n = y_am h' n
  | 0, _ => rfl
  | n + 1, e => by
    show (if _ then _ else _) = (if _ then _ else _)
    rw [y_mn_cg n (fun i hi => e i (by omega)), e (n + 1) (Nat.le_refl _), y_am_cg n (fun i hi => e i (by omega))]
theorem y_mn_add {h : Nat → Nat} {a : Nat} : ∀ n, y_mn (fun i => a + h i) n = a + y_mn h n
  | 0 => rfl
  | n + 1 => by
    show min (y_mn (fun i => a + h i) n) (a + h (n + 1)) = a + min (y_mn h n) (h (n + 1))
    rw [y_mn_add n, Nat.add_min_add_left]
theorem y_mn_sp (h : Nat → Nat) (n : Nat) : ∀ c, y_mn h (n + (c + 1)) = min (y_mn h n) (y_mn (fun i => h (n + 1 + i)) c) ∧ (if y_mn (fun i => h (n + 1 + i)) c < y_mn h n then n < y_am h (n + (c + 1)) ∧ y_am h (n + (c + 1)) ≤ n + (c + 1) else y_am h (n + (c + 1)) = y_am h n)
  | 0 => by
    refine ⟨rfl, ?_⟩
    show if h (n + 1) < y_mn h n then n < (if h (n + 1) < y_mn h n then n + 1 else y_am h n) ∧ (if h (n + 1) < y_mn h n then n + 1 else y_am h n) ≤ n + 1 else (if h (n + 1) < y_mn h n then n + 1 else y_am h n) = y_am h n
    by_cases hc : h (n + 1) < y_mn h n
    · rw [if_pos hc, if_pos hc]
      omega
    · rw [if_neg hc, if_neg hc]
  | c + 1 => by
    obtain ⟨h1, h2⟩ := y_mn_sp h n c
    have e1 : y_mn h (n + (c + 1 + 1)) = min (y_mn h (n + (c + 1))) (h (n + (c + 1) + 1)) := rfl
    have e2 : y_mn (fun i => h (n + 1 + i)) (c + 1) = min (y_mn (fun i => h (n + 1 + i)) c) (h (n + 1 + (c + 1))) := rfl
    have e3 : y_am h (n + (c + 1 + 1)) = if h (n + (c + 1) + 1) < y_mn h (n + (c + 1)) then n + (c + 1) + 1 else y_am h (n + (c + 1)) := rfl
    have e4 : n + 1 + (c + 1) = n + (c + 1) + 1 := by omega
    rw [e1, e2, e3, e4, h1]
    refine ⟨by rw [Nat.min_assoc], ?_⟩
    by_cases hb : y_mn (fun i => h (n + 1 + i)) c < y_mn h n
    · rw [if_pos hb] at h2
      rw [Nat.min_eq_right (by omega : y_mn (fun i => h (n + 1 + i)) c ≤ y_mn h n)]
      have : min (y_mn (fun i => h (n + 1 + i)) c) (h (n + (c + 1) + 1)) < y_mn h n := Nat.lt_of_le_of_lt (Nat.min_le_left _ _) hb
      rw [if_pos this]
      split <;> omega
    · rw [if_neg hb] at h2
      rw [Nat.min_eq_left (by omega : y_mn h n ≤ y_mn (fun i => h (n + 1 + i)) c)]
      by_cases hx : h (n + (c + 1) + 1) < y_mn h n
      · have : min (y_mn (fun i => h (n + 1 + i)) c) (h (n + (c + 1) + 1)) < y_mn h n := Nat.lt_of_le_of_lt (Nat.min_le_right _ _) hx
        rw [if_pos this, if_pos hx]
        omega
      · have : ¬ min (y_mn (fun i => h (n + 1 + i)) c) (h (n + (c + 1) + 1)) < y_mn h n := by
          intro q
          have := Nat.le_min.mpr ⟨(by omega : y_mn h n ≤ y_mn (fun i => h (n + 1 + i)) c), (by omega : y_mn h n ≤ h (n + (c + 1) + 1))⟩
          omega
        rw [if_neg this, if_neg hx]
        exact h2
theorem y_blk (h : Nat → Nat) {B : Nat} (hB : 1 ≤ B) : ∀ q, y_mn h (B * (q + 1) - 1) = y_mn (fun q => y_mn (fun c => h (B * q + c)) (B - 1)) q ∧ y_am h (B * (q + 1) - 1) / B = y_am (fun q => y_mn (fun c => h (B * q + c)) (B - 1)) q
  | 0 => by
    have e : B * (0 + 1) - 1 = B - 1 := by rw [Nat.zero_add, Nat.mul_one]
    rw [e]
    refine ⟨?_, ?_⟩
    · show _ = y_mn (fun c => h (B * 0 + c)) (B - 1)
      refine y_mn_cg _ (fun i _ => ?_)
      rw [Nat.mul_zero, Nat.zero_add]
    · have := y_am_le h (B - 1)
      show _ = 0
      exact Nat.div_eq_of_lt (by omega)
  | q + 1 => by
    obtain ⟨h1, h2⟩ := y_blk h hB q
    have hm : B * (q + 1 + 1) = B * (q + 1) + B := Nat.mul_succ _ _
    have hp : 1 * 1 ≤ B * (q + 1) := Nat.mul_le_mul hB (by omega)
    obtain ⟨n, hn⟩ : ∃ n, n = B * (q + 1) - 1 := ⟨_, rfl⟩
    have e : B * (q + 1 + 1) - 1 = n + (B - 1 + 1) := by omega
    obtain ⟨s1, s2⟩ := y_mn_sp h n (B - 1)
    have en : n + 1 = B * (q + 1) := by omega
    rw [en] at s1 s2
    rw [e]
    rw [← hn] at h1 h2
    have f1 : y_mn (fun q => y_mn (fun c => h (B * q + c)) (B - 1)) (q + 1) = min (y_mn (fun q => y_mn (fun c => h (B * q + c)) (B - 1)) q) (y_mn (fun c => h (B * (q + 1) + c)) (B - 1)) := rfl
    have f2 : y_am (fun q => y_mn (fun c => h (B * q + c)) (B - 1)) (q + 1) = if y_mn (fun c => h (B * (q + 1) + c)) (B - 1) < y_mn (fun q => y_mn (fun c => h (B * q + c)) (B - 1)) q then q + 1 else y_am (fun q => y_mn (fun c => h (B * q + c)) (B - 1)) q := rfl
    rw [f1, f2, ← h1]
    refine ⟨s1, ?_⟩
    by_cases hc : y_mn (fun c => h (B * (q + 1) + c)) (B - 1) < y_mn h n
    · rw [if_pos hc] at s2 ⊢
      have hlt : y_am h (n + (B - 1 + 1)) < (q + 1 + 1) * B := by rw [Nat.mul_comm]; omega
      have hge : (q + 1) * B ≤ y_am h (n + (B - 1 + 1)) := by rw [Nat.mul_comm]; omega
      have g1 := (Nat.div_lt_iff_lt_mul hB).mpr hlt
      have g2 := (Nat.le_div_iff_mul_le hB).mpr hge
      omega
    · rw [if_neg hc] at s2 ⊢
      rw [s2]
      exact h2
def y_pt (need q : Nat) : Nat := need * q / 4
def y_hd (need calm o q : Nat) : Nat := need - y_pt need q + 10 * ((o + y_pt need q) / calm)
def y_un (need calm : Nat) : Nat → Nat → Nat
  | 0, _ => 0
  | m + 1, o => y_mn (fun q => y_hd need calm o q + y_un need calm m (o + y_pt need q)) 4
def y_up (need calm m o q : Nat) : Nat := y_hd need calm o q + y_un need calm m (o + y_pt need q)
def y_cs (need calm : Nat) : Nat → Nat → Nat → Nat
  | 0, _, _ => 0
  | m + 1, o, c => y_hd need calm o (c / 5 ^ m) + y_cs need calm m (o + y_pt need (c / 5 ^ m)) (c % 5 ^ m)
theorem y_pt_le {need q : Nat} (hq : q ≤ 4) : y_pt need q ≤ need := by
  unfold y_pt
  have : need * q ≤ need * 4 := Nat.mul_le_mul_left _ hq
  omega
theorem y_cs_bl {need calm m o q c : Nat} (hc : c < 5 ^ m) : y_cs need calm (m + 1) o (5 ^ m * q + c) = y_hd need calm o q + y_cs need calm m (o + y_pt need q) c := by
  have hp : 0 < 5 ^ m := Nat.pow_pos (by decide)
  show y_hd need calm o ((5 ^ m * q + c) / 5 ^ m) + y_cs need calm m (o + y_pt need ((5 ^ m * q + c) / 5 ^ m)) ((5 ^ m * q + c) % 5 ^ m) = _
  rw [Nat.mul_add_div hp, Nat.div_eq_of_lt hc, Nat.mul_add_mod, Nat.mod_eq_of_lt hc, Nat.add_zero]
theorem y_un_cs {need calm : Nat} : ∀ m o, y_mn (y_cs need calm m o) (5 ^ m - 1) = y_un need calm m o
  | 0, o => rfl
  | m + 1, o => by
    have hp : 0 < 5 ^ m := Nat.pow_pos (by decide)
    have h1 := (y_blk (y_cs need calm (m + 1) o) hp 4).1
    rw [show (4 : Nat) + 1 = 5 from rfl, ← Nat.pow_succ] at h1
    rw [h1]
    show _ = y_mn (fun q => y_hd need calm o q + y_un need calm m (o + y_pt need q)) 4
    refine y_mn_cg 4 (fun q _ => ?_)
    rw [y_mn_cg (h' := fun c => y_hd need calm o q + y_cs need calm m (o + y_pt need q) c) _ (fun c hc => y_cs_bl (by omega)), y_mn_add, y_un_cs m]
theorem y_am_cs {need calm m o : Nat} : y_am (y_cs need calm (m + 1) o) (5 ^ (m + 1) - 1) / 5 ^ m = y_am (y_up need calm m o) 4 := by
  have hp : 0 < 5 ^ m := Nat.pow_pos (by decide)
  have h1 := (y_blk (y_cs need calm (m + 1) o) hp 4).2
  rw [show (4 : Nat) + 1 = 5 from rfl, ← Nat.pow_succ] at h1
  rw [h1]
  refine y_am_cg 4 (fun q _ => ?_)
  rw [y_mn_cg (h' := fun c => y_hd need calm o q + y_cs need calm m (o + y_pt need q) c) _ (fun c hc => y_cs_bl (by omega)), y_mn_add, y_un_cs m]
  rfl
theorem y_hd_le {need calm o q : Nat} (hn : need ≤ 999) (hc : 10 ≤ calm) (hq : q ≤ 4) : y_hd need calm o q ≤ o + 1998 := by
  have h1 := y_pt_le (need := need) hq
  have h2 : (o + y_pt need q) / calm ≤ (o + y_pt need q) / 10 := Nat.div_le_div_left hc (by decide)
  unfold y_hd
  omega
theorem y_un_le {need calm : Nat} (hn : need ≤ 999) (hc : 10 ≤ calm) : ∀ m o, o + 999 * m ≤ 210000000 → y_un need calm m o ≤ m * 210002000
  | 0, o, _ => Nat.zero_le _
  | m + 1, o, ho => by
    have h0 := y_hd_le (o := o) (q := 0) hn hc (by decide)
    have h1 := y_un_le hn hc m (o + y_pt need 0) (by have := y_pt_le (need := need) (q := 0) (by decide); omega)
    have h2 := y_mn_at (fun q => y_hd need calm o q + y_un need calm m (o + y_pt need q)) 4 0 (by decide)
    have h2 : y_un need calm (m + 1) o ≤ y_hd need calm o 0 + y_un need calm m (o + y_pt need 0) := h2
    omega
def sp_plan (v : xV) (x y : Int32) : xS := x_sr (x_wi x 1 5 && x_wi y 0 999) (nI (y_un (x_c y) (v 3 0 0) (x_c x) (v_out v))) v
def sp_planFirst (v : xV) (x y : Int32) : xS := x_sr (x_wi x 1 5 && x_wi y 0 999) (nI (y_pt (x_c y) (y_am (y_up (x_c y) (v 3 0 0) (x_c x - 1) (v_out v)) 4))) v
section C46
variable {f : Nat → Nat → Int32} {g : Nat → Nat → Int64} {r t : Nat} {ρ : Nat → Nat → Option Nat} {dm : List Nat} {n d N : Nat} {v : xV} {h : xH}
theorem c_upOf {need calm m o q : Nat} (hl : ∀ o', o' + 999 * m ≤ 210000000 → x_V 172 (d + 1) [.int (nI m), .int (nI o'), .int (nI need), .int (nI calm)] h (.int (nI (y_un need calm m o'))) h) (hn : need ≤ 999) (hc : 10 ≤ calm) (hc2 : calm ≤ 9999) (hq : q ≤ 4) (hm : m ≤ 5) (ho : o + 999 * (m + 1) ≤ 210000000) : x_V 173 (d + 2) [.int (nI q), .int (nI (m + 1)), .int (nI o), .int (nI need), .int (nI calm)] h (.int (nI (y_up need calm m o q))) h := by
  have hp := y_pt_le (need := need) hq
  have hnq : need * q ≤ 999 * 4 := Nat.mul_le_mul hn hq
  have ep : nI need * nI q / nI 4 = nI (y_pt need q) := by rw [pk_mul, pk_div (by omega) (by decide) (by decide)]; rfl
  have eo : nI o + nI (y_pt need q) = nI (o + y_pt need q) := nI_add _ _
  have hd : (o + y_pt need q) / calm ≤ o + y_pt need q := Nat.div_le_self _ _
  refine x_Ct_w (by decide) (Nat.le_of_ble_eq_true rfl) ok173 [] 3 ?_
  refine And.intro (by decide) ?_
  have cl := c_levelBy (d := d) (h := h) (o := o + y_pt need q) (c := calm) (by omega) (by omega) (by omega)
  rw [← eo, ← ep] at cl
  refine Exists.intro _ (And.intro cl (And.intro (And.intro (Nat.zero_le _) (Nat.zero_le _)) (fun q h' hpo => ?_)))
  obtain ⟨rfl, rfl⟩ := hpo
  have cu := hl (o + y_pt need q) (by omega)
  rw [← eo, ← ep, ← nI_pred m] at cu
  refine Exists.intro _ (And.intro cu (And.intro (And.intro (Nat.zero_le _) (Nat.zero_le _)) (fun q h' hpo => ?_)))
  obtain ⟨rfl, rfl⟩ := hpo
  have hu : nI need - nI need * nI q / nI 4 + nI 10 * (nI (1 + (o + y_pt need q) / calm) - 1) + nI (y_un need calm m (o + y_pt need q)) = nI (y_up need calm m o q) := by
    rw [ep, pk_sub hp, show 1 + (o + y_pt need q) / calm = (o + y_pt need q) / calm + 1 by omega, nI_pred, pk_mul, nI_add, nI_add]
    rfl
  exact And.intro ⟨(congrArg (fun z => some (Value.int z)) hu), rfl⟩ ⟨trivial, Nat.le_refl _, Nat.le_refl _⟩
theorem c_least {need calm : Nat} (hn : need ≤ 999) (hc : 10 ≤ calm) (hc2 : calm ≤ 9999) : ∀ m, m ≤ 5 → ∀ d o, o + 999 * m ≤ 210000000 → x_V 172 (d + 2 * m + 1) [.int (nI m), .int (nI o), .int (nI need), .int (nI calm)] h (.int (nI (y_un need calm m o))) h := by
  intro m
  induction m with
  | zero =>
    intro _ d o ho
    refine x_Ct_w (by decide) (Nat.le_of_ble_eq_true rfl) ok172 [19] 3 ?_
    refine And.intro (fun c => absurd (show nI 0 < nI 0 from c) (by decide)) (fun _ => ?_)
    exact And.intro ⟨rfl, rfl⟩ ⟨trivial, Nat.le_refl _, Nat.le_refl _⟩
  | succ m ih =>
    intro hm d o ho
    rw [show d + 2 * (m + 1) + 1 = d + 2 * m + 1 + 1 + 1 by omega]
    have cu : ∀ q, q ≤ 4 → x_V 173 (d + 2 * m + 2) [.int (nI q), .int (nI (m + 1)), .int (nI o), .int (nI need), .int (nI calm)] h (.int (nI (y_up need calm m o q))) h := fun q hq => c_upOf (d := d + 2 * m) (fun o' ho' => ih (by omega) d o' ho') hn hc hc2 hq (by omega) ho
    have bu : ∀ q, q ≤ 4 → y_up need calm m o q ≤ 6 * 210002000 := fun q hq => by
      have h1 := y_hd_le (o := o) hn hc hq
      have h2 := y_un_le hn hc m (o + y_pt need q) (by have := y_pt_le (need := need) hq; omega)
      have h3 : m * 210002000 ≤ 5 * 210002000 := Nat.mul_le_mul_right _ (by omega)
      unfold y_up
      omega
    have loop : ∀ p q, q + p = 4 → x_J 172 (d + 2 * m + 1 + 1 + 1) (fun z h' => z = some (.int (nI (y_un need calm (m + 1) o))) ∧ h' = h) 19 [some (.int (nI (m + 1))), some (.int (nI o)), some (.int (nI need)), some (.int (nI calm)), some (.int (nI (y_mn (y_up need calm m o) q))), some (.int (nI (q + 1)))] [] h 0 0 := by
      intro p
      induction p with
      | zero =>
        intro q hq
        obtain rfl : q = 4 := by omega
        refine x_wp_ok ok172 [19] 3 ?_
        refine And.intro (fun c => ?_) (fun c => ?_)
        · exact And.intro ⟨rfl, rfl⟩ ⟨trivial, Nat.le_refl _, Nat.le_refl _⟩
        · exact absurd (show nI 4 < nI (4 + 1) by decide) c
      | succ p ih2 =>
        intro q hq
        have b1 := y_mn_at (y_up need calm m o) q 0 (Nat.zero_le _)
        have b2 := bu 0 (by decide)
        have b3 := bu (q + 1) (by omega)
        refine x_wp_ok ok172 [19] 3 ?_
        refine And.intro (fun c => ?_) (fun c => ?_)
        · have c : nI 4 < nI (q + 1) := c
          rw [nI_ltI (by decide) (by omega)] at c
          omega
        · refine Exists.intro _ (And.intro (cu (q + 1) (by omega)) (And.intro (And.intro (Nat.zero_le _) (Nat.zero_le _)) (fun q h' hpo => ?_)))
          obtain ⟨rfl, rfl⟩ := hpo
          have e := ih2 (q + 1) (by omega)
          rw [show y_mn (y_up need calm m o) (q + 1) = min (y_mn (y_up need calm m o) q) (y_up need calm m o (q + 1)) from rfl, ← x_min_nI (by omega) (by omega), nI_succ (q + 1)] at e
          exact e
    refine x_Ct_w (by decide) (Nat.le_of_ble_eq_true rfl) ok172 [19] 3 ?_
    refine And.intro (fun c => ?_) (fun c => ?_)
    · refine Exists.intro _ (And.intro (cu 0 (by decide)) (And.intro (And.intro (Nat.zero_le _) (Nat.zero_le _)) (fun q h' hpo => ?_)))
      obtain ⟨rfl, rfl⟩ := hpo
      exact loop 4 0 rfl
    · have c : ¬ nI 0 < nI (m + 1) := c
      rw [nI_ltI (by decide) (by omega)] at c
      omega
theorem c_plan_12 {x y : Int32} (hC : v_C f g 12 v) (hB : v_B v) : x_Ct 145 (d + 13) [.ref 0, .int x, .int y] (f, g, x_HR 12 t, dm, n) (x_PC f g 12 (x_HR 12 t) dm n (sp_plan v x y)) := by
  have o3 : v_ok v 3 0 0 := ⟨rfl, rfl⟩
  have h3 : f 13 0 = nI (v 3 0 0) := hC.1 3 0 0 o3
  have b3 : v 3 0 0 ≤ 9999 := (hB.1 3 0 0 o3).2
  have l3 : 10 ≤ v 3 0 0 := (hB.1 3 0 0 o3).1
  have bo := v_out_le hB
  unfold sp_plan
  refine x_Ct_w (by decide) (Nat.le_of_ble_eq_true rfl) ok145 [] 6 ?_
  refine Exists.intro _ (And.intro (c_within (x := x) (lo := 1) (hi := 5)) (And.intro (And.intro (Nat.zero_le _) (Nat.zero_le _)) (fun q h' hpo => ?_)))
  obtain ⟨rfl, rfl⟩ := hpo
  cases hx : x_wi x 1 5 with
  | false =>
    refine And.intro (fun _ => ?_) (fun c => absurd rfl c)
    refine Exists.intro _ (And.intro c_refuse (And.intro (And.intro (Nat.zero_le _) (Nat.zero_le _)) (fun q h' hpo => ?_)))
    obtain ⟨rfl, rfl⟩ := hpo
    refine And.intro ?_ ⟨trivial, Nat.le_refl _, Nat.le_refl _⟩
    exact x_PC_0 (by decide) hC
  | true =>
    refine And.intro (fun c => absurd c (by decide)) (fun _ => ?_)
    refine Exists.intro _ (And.intro (c_within (x := y) (lo := 0) (hi := 999)) (And.intro (And.intro (Nat.zero_le _) (Nat.zero_le _)) (fun q h' hpo => ?_)))
    obtain ⟨rfl, rfl⟩ := hpo
    cases hy : x_wi y 0 999 with
    | false =>
      refine And.intro (fun c => absurd rfl c) (fun _ => ?_)
      refine Exists.intro _ (And.intro c_refuse (And.intro (And.intro (Nat.zero_le _) (Nat.zero_le _)) (fun q h' hpo => ?_)))
      obtain ⟨rfl, rfl⟩ := hpo
      refine And.intro ?_ ⟨trivial, Nat.le_refl _, Nat.le_refl _⟩
      exact x_PC_0 (by decide) hC
    | true =>
      refine And.intro (fun _ => ?_) (fun c => absurd c (by decide))
      obtain ⟨m, hm1, hm, rfl⟩ := x_wi_t (lo := 1) (hi := 5) hx (by decide) (by decide)
      obtain ⟨need, hn1, hn, rfl⟩ := x_wi_t (lo := 0) (hi := 999) hy (by decide) (by decide)
      rw [x_c, x_c, nI_clamp (by omega), nI_clamp (by omega)]
      refine Exists.intro _ (And.intro (c_outNow_12 hC hB) (And.intro (And.intro (Nat.zero_le _) (Nat.zero_le _)) (fun q h' hpo => ?_)))
      obtain ⟨rfl, rfl⟩ := hpo
      refine And.intro (x_ix_nI (j := 0) (by decide) (by decide)) ?_
      have cl := c_least (h := (f, g, x_HR 12 t, dm, n)) hn l3 b3 m hm (d + (11 - 2 * m)) (v_out v) (by omega)
      rw [show d + (11 - 2 * m) + 2 * m + 1 = d + 12 by omega, ← h3] at cl
      refine Exists.intro _ (And.intro cl (And.intro (And.intro (Nat.zero_le _) (Nat.zero_le _)) (fun q h' hpo => ?_)))
      obtain ⟨rfl, rfl⟩ := hpo
      refine Exists.intro _ (And.intro c_answer (And.intro (And.intro (Nat.zero_le _) (Nat.zero_le _)) (fun q h' hpo => ?_)))
      obtain ⟨rfl, rfl⟩ := hpo
      refine And.intro ?_ ⟨trivial, Nat.le_refl _, Nat.le_refl _⟩
      exact x_PC_0 (by decide) hC
theorem c_planFirst_12 {x y : Int32} (hC : v_C f g 12 v) (hB : v_B v) : x_Ct 146 (d + 13) [.ref 0, .int x, .int y] (f, g, x_HR 12 t, dm, n) (x_PC f g 12 (x_HR 12 t) dm n (sp_planFirst v x y)) := by
  have o3 : v_ok v 3 0 0 := ⟨rfl, rfl⟩
  have h3 : f 13 0 = nI (v 3 0 0) := hC.1 3 0 0 o3
  have b3 : v 3 0 0 ≤ 9999 := (hB.1 3 0 0 o3).2
  have l3 : 10 ≤ v 3 0 0 := (hB.1 3 0 0 o3).1
  have bo := v_out_le hB
  unfold sp_planFirst
  refine x_Ct_w (by decide) (Nat.le_of_ble_eq_true rfl) ok146 [58] 6 ?_
  refine Exists.intro _ (And.intro (c_within (x := x) (lo := 1) (hi := 5)) (And.intro (And.intro (Nat.zero_le _) (Nat.zero_le _)) (fun q h' hpo => ?_)))
  obtain ⟨rfl, rfl⟩ := hpo
  cases hx : x_wi x 1 5 with
  | false =>
    refine And.intro (fun _ => ?_) (fun c => absurd rfl c)
    refine Exists.intro _ (And.intro c_refuse (And.intro (And.intro (Nat.zero_le _) (Nat.zero_le _)) (fun q h' hpo => ?_)))
    obtain ⟨rfl, rfl⟩ := hpo
    refine And.intro ?_ ⟨trivial, Nat.le_refl _, Nat.le_refl _⟩
    exact x_PC_0 (by decide) hC
  | true =>
    refine And.intro (fun c => absurd c (by decide)) (fun _ => ?_)
    refine Exists.intro _ (And.intro (c_within (x := y) (lo := 0) (hi := 999)) (And.intro (And.intro (Nat.zero_le _) (Nat.zero_le _)) (fun q h' hpo => ?_)))
    obtain ⟨rfl, rfl⟩ := hpo
    cases hy : x_wi y 0 999 with
    | false =>
      refine And.intro (fun c => absurd rfl c) (fun _ => ?_)
      refine Exists.intro _ (And.intro c_refuse (And.intro (And.intro (Nat.zero_le _) (Nat.zero_le _)) (fun q h' hpo => ?_)))
      obtain ⟨rfl, rfl⟩ := hpo
      refine And.intro ?_ ⟨trivial, Nat.le_refl _, Nat.le_refl _⟩
      exact x_PC_0 (by decide) hC
    | true =>
      refine And.intro (fun _ => ?_) (fun c => absurd c (by decide))
      obtain ⟨m, hm1, hm, rfl⟩ := x_wi_t (lo := 1) (hi := 5) hx (by decide) (by decide)
      obtain ⟨need, hn1, hn, rfl⟩ := x_wi_t (lo := 0) (hi := 999) hy (by decide) (by decide)
      rw [x_c, x_c, nI_clamp (by omega), nI_clamp (by omega)]
      refine Exists.intro _ (And.intro (c_outNow_12 hC hB) (And.intro (And.intro (Nat.zero_le _) (Nat.zero_le _)) (fun q h' hpo => ?_)))
      obtain ⟨rfl, rfl⟩ := hpo
      refine And.intro (x_ix_nI (j := 0) (by decide) (by decide)) ?_
      have cl := c_least (h := (f, g, x_HR 12 t, dm, n)) hn l3 b3 m hm (d + (11 - 2 * m)) (v_out v) (by omega)
      rw [show d + (11 - 2 * m) + 2 * m + 1 = d + 12 by omega, ← h3] at cl
      refine Exists.intro _ (And.intro cl (And.intro (And.intro (Nat.zero_le _) (Nat.zero_le _)) (fun q h' hpo => ?_)))
      obtain ⟨rfl, rfl⟩ := hpo
      obtain ⟨m, rfl⟩ : ∃ m', m = m' + 1 := ⟨m - 1, by omega⟩
      rw [Nat.add_sub_cancel]
      obtain ⟨u, hu⟩ : ∃ u, u = y_up need (v 3 0 0) m (v_out v) := ⟨_, rfl⟩
      have cu : ∀ q, q ≤ 4 → x_V 173 (d + 12) [.int (nI q), .int (nI (m + 1)), .int (nI (v_out v)), .int (nI need), .int (f 13 0)] (f, g, x_HR 12 t, dm, n) (.int (nI (u q))) (f, g, x_HR 12 t, dm, n) := fun q hq => by
        rw [h3, hu]
        refine c_upOf (d := d + 10) (fun o' ho' => ?_) hn l3 b3 hq (by omega) (by omega)
        have c2 := c_least (h := (f, g, x_HR 12 t, dm, n)) hn l3 b3 m (by omega) (d + (10 - 2 * m)) o' ho'
        rw [show d + (10 - 2 * m) + 2 * m + 1 = d + 10 + 1 by omega] at c2
        exact c2
      have bu : ∀ q, q ≤ 4 → u q ≤ 6 * 210002000 := fun q hq => by
        have g1 := y_hd_le (o := v_out v) hn l3 hq
        have g2 := y_un_le hn l3 m (v_out v + y_pt need q) (by have := y_pt_le (need := need) hq; omega)
        have g3 : m * 210002000 ≤ 5 * 210002000 := Nat.mul_le_mul_right _ (by omega)
        rw [hu]
        unfold y_up
        omega
      have eL : y_un need (v 3 0 0) (m + 1) (v_out v) = y_mn u 4 := by rw [hu]; rfl
      obtain ⟨A, hA⟩ : ∃ A, A = y_am u 4 := ⟨_, rfl⟩
      have hA4 : A ≤ 4 := by rw [hA]; exact y_am_le u 4
      obtain ⟨am1, am2⟩ := y_am_ok u 4
      rw [← hA] at am1 am2
      rw [← hu, ← hA]
      have bA := bu A hA4
      have loop : ∀ p q, q + p = A → x_J 146 (d + 13) (x_PC f g 12 (x_HR 12 t) dm n (.int (nI (y_pt need A)), 0, v)) 58 [some (.ref 0), some (.int (nI (m + 1))), some (.int (nI need)), some (.int (nI (v_out v))), some (.int (f 13 0)), some (.int (nI (y_un need (v 3 0 0) (m + 1) (v_out v)))), some (.int (nI q))] [] (f, g, x_HR 12 t, dm, n) 0 0 := by
        have fin : x_J 146 (d + 13) (x_PC f g 12 (x_HR 12 t) dm n (.int (nI (y_pt need A)), 0, v)) 85 [some (.ref 0), some (.int (nI (m + 1))), some (.int (nI need)), some (.int (nI (v_out v))), some (.int (f 13 0)), some (.int (nI (y_un need (v 3 0 0) (m + 1) (v_out v)))), some (.int (nI A))] [] (f, g, x_HR 12 t, dm, n) 0 0 := by
          have hnq : need * A ≤ 999 * 4 := Nat.mul_le_mul hn hA4
          have ep : nI need * nI A / nI 4 = nI (y_pt need A) := by rw [pk_mul, pk_div (by omega) (by decide) (by decide)]; rfl
          refine x_wp_ok ok146 [58] 6 ?_
          refine And.intro (by decide) ?_
          refine Exists.intro _ (And.intro c_answer (And.intro (And.intro (Nat.zero_le _) (Nat.zero_le _)) (fun q h' hpo => ?_)))
          obtain ⟨rfl, rfl⟩ := hpo
          refine And.intro ?_ ⟨trivial, Nat.le_refl _, Nat.le_refl _⟩
          rw [← ep]
          exact x_PC_0 (by decide) hC
        intro p
        induction p with
        | zero =>
          intro q hq
          obtain rfl : q = A := by omega
          refine x_wp_ok ok146 [58, 85] 6 ?_
          refine And.intro (fun c => ?_) (fun c => ?_)
          · exact fin
          · refine Exists.intro _ (And.intro (cu q hA4) (And.intro (And.intro (Nat.zero_le _) (Nat.zero_le _)) (fun q h' hpo => ?_)))
            obtain ⟨rfl, rfl⟩ := hpo
            refine And.intro (fun c2 => ?_) (fun c2 => ?_)
            · exact fin
            · have c2 : ¬ nI (u q) ≤ nI (y_un need (v 3 0 0) (m + 1) (v_out v)) := c2
              rw [eL, am1, nI_leI (by omega) (by omega)] at c2
              omega
        | succ p ih =>
          intro q hq
          have b3 := bu q (by omega)
          have a3 := am2 q (by omega)
          refine x_wp_ok ok146 [58, 85] 6 ?_
          refine And.intro (fun c => ?_) (fun c => ?_)
          · have c : nI 4 ≤ nI q := c
            rw [nI_leI (by decide) (by omega)] at c
            omega
          · refine Exists.intro _ (And.intro (cu q (by omega)) (And.intro (And.intro (Nat.zero_le _) (Nat.zero_le _)) (fun q h' hpo => ?_)))
            obtain ⟨rfl, rfl⟩ := hpo
            refine And.intro (fun c2 => ?_) (fun c2 => ?_)
            · have c2 : nI (u q) ≤ nI (y_un need (v 3 0 0) (m + 1) (v_out v)) := c2
              rw [eL, nI_leI (by omega) (by omega)] at c2
              omega
            · have e := ih (q + 1) (by omega)
              rw [nI_succ q] at e
              exact e
      exact loop A 0 (Nat.zero_add _)
theorem c_plan_22 {x y : Int32} (hC : v_C f g 22 v) (hB : v_B v) : x_Ct 145 (d + 13) [.ref 0, .int x, .int y] (f, g, x_HR 22 t, dm, n) (x_PC f g 22 (x_HR 22 t) dm n (sp_plan v x y)) := by
  have o3 : v_ok v 3 0 0 := ⟨rfl, rfl⟩
  have h3 : f 23 0 = nI (v 3 0 0) := hC.1 3 0 0 o3
  have b3 : v 3 0 0 ≤ 9999 := (hB.1 3 0 0 o3).2
  have l3 : 10 ≤ v 3 0 0 := (hB.1 3 0 0 o3).1
  have bo := v_out_le hB
  unfold sp_plan
  refine x_Ct_w (by decide) (Nat.le_of_ble_eq_true rfl) ok145 [] 6 ?_
  refine Exists.intro _ (And.intro (c_within (x := x) (lo := 1) (hi := 5)) (And.intro (And.intro (Nat.zero_le _) (Nat.zero_le _)) (fun q h' hpo => ?_)))
  obtain ⟨rfl, rfl⟩ := hpo
  cases hx : x_wi x 1 5 with
  | false =>
    refine And.intro (fun _ => ?_) (fun c => absurd rfl c)
    refine Exists.intro _ (And.intro c_refuse (And.intro (And.intro (Nat.zero_le _) (Nat.zero_le _)) (fun q h' hpo => ?_)))
    obtain ⟨rfl, rfl⟩ := hpo
    refine And.intro ?_ ⟨trivial, Nat.le_refl _, Nat.le_refl _⟩
    exact x_PC_0 (by decide) hC
  | true =>
    refine And.intro (fun c => absurd c (by decide)) (fun _ => ?_)
    refine Exists.intro _ (And.intro (c_within (x := y) (lo := 0) (hi := 999)) (And.intro (And.intro (Nat.zero_le _) (Nat.zero_le _)) (fun q h' hpo => ?_)))
    obtain ⟨rfl, rfl⟩ := hpo
    cases hy : x_wi y 0 999 with
    | false =>
      refine And.intro (fun c => absurd rfl c) (fun _ => ?_)
      refine Exists.intro _ (And.intro c_refuse (And.intro (And.intro (Nat.zero_le _) (Nat.zero_le _)) (fun q h' hpo => ?_)))
      obtain ⟨rfl, rfl⟩ := hpo
      refine And.intro ?_ ⟨trivial, Nat.le_refl _, Nat.le_refl _⟩
      exact x_PC_0 (by decide) hC
    | true =>
      refine And.intro (fun _ => ?_) (fun c => absurd c (by decide))
      obtain ⟨m, hm1, hm, rfl⟩ := x_wi_t (lo := 1) (hi := 5) hx (by decide) (by decide)
      obtain ⟨need, hn1, hn, rfl⟩ := x_wi_t (lo := 0) (hi := 999) hy (by decide) (by decide)
      rw [x_c, x_c, nI_clamp (by omega), nI_clamp (by omega)]
      refine Exists.intro _ (And.intro (c_outNow_22 hC hB) (And.intro (And.intro (Nat.zero_le _) (Nat.zero_le _)) (fun q h' hpo => ?_)))
      obtain ⟨rfl, rfl⟩ := hpo
      refine And.intro (x_ix_nI (j := 0) (by decide) (by decide)) ?_
      have cl := c_least (h := (f, g, x_HR 22 t, dm, n)) hn l3 b3 m hm (d + (11 - 2 * m)) (v_out v) (by omega)
      rw [show d + (11 - 2 * m) + 2 * m + 1 = d + 12 by omega, ← h3] at cl
      refine Exists.intro _ (And.intro cl (And.intro (And.intro (Nat.zero_le _) (Nat.zero_le _)) (fun q h' hpo => ?_)))
      obtain ⟨rfl, rfl⟩ := hpo
      refine Exists.intro _ (And.intro c_answer (And.intro (And.intro (Nat.zero_le _) (Nat.zero_le _)) (fun q h' hpo => ?_)))
      obtain ⟨rfl, rfl⟩ := hpo
      refine And.intro ?_ ⟨trivial, Nat.le_refl _, Nat.le_refl _⟩
      exact x_PC_0 (by decide) hC
theorem c_planFirst_22 {x y : Int32} (hC : v_C f g 22 v) (hB : v_B v) : x_Ct 146 (d + 13) [.ref 0, .int x, .int y] (f, g, x_HR 22 t, dm, n) (x_PC f g 22 (x_HR 22 t) dm n (sp_planFirst v x y)) := by
  have o3 : v_ok v 3 0 0 := ⟨rfl, rfl⟩
  have h3 : f 23 0 = nI (v 3 0 0) := hC.1 3 0 0 o3
  have b3 : v 3 0 0 ≤ 9999 := (hB.1 3 0 0 o3).2
  have l3 : 10 ≤ v 3 0 0 := (hB.1 3 0 0 o3).1
  have bo := v_out_le hB
  unfold sp_planFirst
  refine x_Ct_w (by decide) (Nat.le_of_ble_eq_true rfl) ok146 [58] 6 ?_
  refine Exists.intro _ (And.intro (c_within (x := x) (lo := 1) (hi := 5)) (And.intro (And.intro (Nat.zero_le _) (Nat.zero_le _)) (fun q h' hpo => ?_)))
  obtain ⟨rfl, rfl⟩ := hpo
  cases hx : x_wi x 1 5 with
  | false =>
    refine And.intro (fun _ => ?_) (fun c => absurd rfl c)
    refine Exists.intro _ (And.intro c_refuse (And.intro (And.intro (Nat.zero_le _) (Nat.zero_le _)) (fun q h' hpo => ?_)))
    obtain ⟨rfl, rfl⟩ := hpo
    refine And.intro ?_ ⟨trivial, Nat.le_refl _, Nat.le_refl _⟩
    exact x_PC_0 (by decide) hC
  | true =>
    refine And.intro (fun c => absurd c (by decide)) (fun _ => ?_)
    refine Exists.intro _ (And.intro (c_within (x := y) (lo := 0) (hi := 999)) (And.intro (And.intro (Nat.zero_le _) (Nat.zero_le _)) (fun q h' hpo => ?_)))
    obtain ⟨rfl, rfl⟩ := hpo
    cases hy : x_wi y 0 999 with
    | false =>
      refine And.intro (fun c => absurd rfl c) (fun _ => ?_)
      refine Exists.intro _ (And.intro c_refuse (And.intro (And.intro (Nat.zero_le _) (Nat.zero_le _)) (fun q h' hpo => ?_)))
      obtain ⟨rfl, rfl⟩ := hpo
      refine And.intro ?_ ⟨trivial, Nat.le_refl _, Nat.le_refl _⟩
      exact x_PC_0 (by decide) hC
    | true =>
      refine And.intro (fun _ => ?_) (fun c => absurd c (by decide))
      obtain ⟨m, hm1, hm, rfl⟩ := x_wi_t (lo := 1) (hi := 5) hx (by decide) (by decide)
      obtain ⟨need, hn1, hn, rfl⟩ := x_wi_t (lo := 0) (hi := 999) hy (by decide) (by decide)
      rw [x_c, x_c, nI_clamp (by omega), nI_clamp (by omega)]
      refine Exists.intro _ (And.intro (c_outNow_22 hC hB) (And.intro (And.intro (Nat.zero_le _) (Nat.zero_le _)) (fun q h' hpo => ?_)))
      obtain ⟨rfl, rfl⟩ := hpo
      refine And.intro (x_ix_nI (j := 0) (by decide) (by decide)) ?_
      have cl := c_least (h := (f, g, x_HR 22 t, dm, n)) hn l3 b3 m hm (d + (11 - 2 * m)) (v_out v) (by omega)
      rw [show d + (11 - 2 * m) + 2 * m + 1 = d + 12 by omega, ← h3] at cl
      refine Exists.intro _ (And.intro cl (And.intro (And.intro (Nat.zero_le _) (Nat.zero_le _)) (fun q h' hpo => ?_)))
      obtain ⟨rfl, rfl⟩ := hpo
      obtain ⟨m, rfl⟩ : ∃ m', m = m' + 1 := ⟨m - 1, by omega⟩
      rw [Nat.add_sub_cancel]
      obtain ⟨u, hu⟩ : ∃ u, u = y_up need (v 3 0 0) m (v_out v) := ⟨_, rfl⟩
      have cu : ∀ q, q ≤ 4 → x_V 173 (d + 12) [.int (nI q), .int (nI (m + 1)), .int (nI (v_out v)), .int (nI need), .int (f 23 0)] (f, g, x_HR 22 t, dm, n) (.int (nI (u q))) (f, g, x_HR 22 t, dm, n) := fun q hq => by
        rw [h3, hu]
        refine c_upOf (d := d + 10) (fun o' ho' => ?_) hn l3 b3 hq (by omega) (by omega)
        have c2 := c_least (h := (f, g, x_HR 22 t, dm, n)) hn l3 b3 m (by omega) (d + (10 - 2 * m)) o' ho'
        rw [show d + (10 - 2 * m) + 2 * m + 1 = d + 10 + 1 by omega] at c2
        exact c2
      have bu : ∀ q, q ≤ 4 → u q ≤ 6 * 210002000 := fun q hq => by
        have g1 := y_hd_le (o := v_out v) hn l3 hq
        have g2 := y_un_le hn l3 m (v_out v + y_pt need q) (by have := y_pt_le (need := need) hq; omega)
        have g3 : m * 210002000 ≤ 5 * 210002000 := Nat.mul_le_mul_right _ (by omega)
        rw [hu]
        unfold y_up
        omega
      have eL : y_un need (v 3 0 0) (m + 1) (v_out v) = y_mn u 4 := by rw [hu]; rfl
      obtain ⟨A, hA⟩ : ∃ A, A = y_am u 4 := ⟨_, rfl⟩
      have hA4 : A ≤ 4 := by rw [hA]; exact y_am_le u 4
      obtain ⟨am1, am2⟩ := y_am_ok u 4
      rw [← hA] at am1 am2
      rw [← hu, ← hA]
      have bA := bu A hA4
      have loop : ∀ p q, q + p = A → x_J 146 (d + 13) (x_PC f g 22 (x_HR 22 t) dm n (.int (nI (y_pt need A)), 0, v)) 58 [some (.ref 0), some (.int (nI (m + 1))), some (.int (nI need)), some (.int (nI (v_out v))), some (.int (f 23 0)), some (.int (nI (y_un need (v 3 0 0) (m + 1) (v_out v)))), some (.int (nI q))] [] (f, g, x_HR 22 t, dm, n) 0 0 := by
        have fin : x_J 146 (d + 13) (x_PC f g 22 (x_HR 22 t) dm n (.int (nI (y_pt need A)), 0, v)) 85 [some (.ref 0), some (.int (nI (m + 1))), some (.int (nI need)), some (.int (nI (v_out v))), some (.int (f 23 0)), some (.int (nI (y_un need (v 3 0 0) (m + 1) (v_out v)))), some (.int (nI A))] [] (f, g, x_HR 22 t, dm, n) 0 0 := by
          have hnq : need * A ≤ 999 * 4 := Nat.mul_le_mul hn hA4
          have ep : nI need * nI A / nI 4 = nI (y_pt need A) := by rw [pk_mul, pk_div (by omega) (by decide) (by decide)]; rfl
          refine x_wp_ok ok146 [58] 6 ?_
          refine And.intro (by decide) ?_
          refine Exists.intro _ (And.intro c_answer (And.intro (And.intro (Nat.zero_le _) (Nat.zero_le _)) (fun q h' hpo => ?_)))
          obtain ⟨rfl, rfl⟩ := hpo
          refine And.intro ?_ ⟨trivial, Nat.le_refl _, Nat.le_refl _⟩
          rw [← ep]
          exact x_PC_0 (by decide) hC
        intro p
        induction p with
        | zero =>
          intro q hq
          obtain rfl : q = A := by omega
          refine x_wp_ok ok146 [58, 85] 6 ?_
          refine And.intro (fun c => ?_) (fun c => ?_)
          · exact fin
          · refine Exists.intro _ (And.intro (cu q hA4) (And.intro (And.intro (Nat.zero_le _) (Nat.zero_le _)) (fun q h' hpo => ?_)))
            obtain ⟨rfl, rfl⟩ := hpo
            refine And.intro (fun c2 => ?_) (fun c2 => ?_)
            · exact fin
            · have c2 : ¬ nI (u q) ≤ nI (y_un need (v 3 0 0) (m + 1) (v_out v)) := c2
              rw [eL, am1, nI_leI (by omega) (by omega)] at c2
              omega
        | succ p ih =>
          intro q hq
          have b3 := bu q (by omega)
          have a3 := am2 q (by omega)
          refine x_wp_ok ok146 [58, 85] 6 ?_
          refine And.intro (fun c => ?_) (fun c => ?_)
          · have c : nI 4 ≤ nI q := c
            rw [nI_leI (by decide) (by omega)] at c
            omega
          · refine Exists.intro _ (And.intro (cu q (by omega)) (And.intro (And.intro (Nat.zero_le _) (Nat.zero_le _)) (fun q h' hpo => ?_)))
            obtain ⟨rfl, rfl⟩ := hpo
            refine And.intro (fun c2 => ?_) (fun c2 => ?_)
            · have c2 : nI (u q) ≤ nI (y_un need (v 3 0 0) (m + 1) (v_out v)) := c2
              rw [eL, nI_leI (by omega) (by omega)] at c2
              omega
            · have e := ih (q + 1) (by omega)
              rw [nI_succ q] at e
              exact e
      exact loop A 0 (Nat.zero_add _)
end C46
