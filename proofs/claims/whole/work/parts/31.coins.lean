/-! WAYS TO PAY: counts c of each KIND; w what each is WORTH, a how many there are -/
def y_S (f : Nat → Nat) : Nat → Nat → Nat
  | 0, _ => 0
  | m + 1, k => f k + y_S f m (k + 1)
theorem y_S_cg {f h : Nat → Nat} : ∀ m k, (∀ i, k ≤ i → i < k + m → f i = h i) → y_S f m k = y_S h m k
  | 0, _, _ => rfl
  | m + 1, k, e => by
    show f k + y_S f m (k + 1) = h k + y_S h m (k + 1)
    rw [e k (Nat.le_refl _) (by omega), y_S_cg m (k + 1) (fun i h1 h2 => e i (by omega) (by omega))]
theorem y_S_last (f : Nat → Nat) : ∀ m k, y_S f (m + 1) k = y_S f m k + f (k + m)
  | 0, k => by show f k + 0 = 0 + f (k + 0); rw [Nat.add_zero, Nat.zero_add, Nat.add_zero]
  | m + 1, k => by
    show f k + y_S f (m + 1) (k + 1) = f k + y_S f m (k + 1) + f (k + (m + 1))
    rw [y_S_last f m (k + 1), show k + 1 + m = k + (m + 1) by omega, Nat.add_assoc]
theorem y_S_le {f h : Nat → Nat} : ∀ m k, (∀ i, k ≤ i → i < k + m → f i ≤ h i) → y_S f m k ≤ y_S h m k
  | 0, _, _ => Nat.le_refl _
  | m + 1, k, e => by
    show f k + y_S f m (k + 1) ≤ h k + y_S h m (k + 1)
    exact Nat.add_le_add (e k (Nat.le_refl _) (by omega)) (y_S_le m (k + 1) (fun i h1 h2 => e i (by omega) (by omega)))
theorem y_S_mem {f : Nat → Nat} : ∀ m k i, k ≤ i → i < k + m → f i ≤ y_S f m k
  | 0, k, i, h1, h2 => by omega
  | m + 1, k, i, h1, h2 => by
    show f i ≤ f k + y_S f m (k + 1)
    by_cases h : i = k
    · subst h
      exact Nat.le_add_right _ _
    · exact Nat.le_trans (y_S_mem m (k + 1) i (by omega) (by omega)) (Nat.le_add_left _ _)
def y_F (w a : Nat → Nat) (m k s : Nat) (c : Nat → Nat) : Prop := (∀ i, k ≤ i → i < k + m → c i ≤ a i) ∧ y_S (fun i => c i * w i) m k = s
def y_co (i : Nat) : Nat := 2 ^ 40 - 1024 ^ (3 - i)
def y_C (m k : Nat) (c : Nat → Nat) : Nat := y_S (fun i => c i * y_co i) m k
def y_D (m k : Nat) (c : Nat → Nat) : Nat := y_S (fun i => c i * 1024 ^ (3 - i)) m k
theorem y_co_add (i : Nat) : y_co i + 1024 ^ (3 - i) = 2 ^ 40 := by
  have : 1024 ^ (3 - i) ≤ 1024 ^ 3 := Nat.pow_le_pow_right (by decide) (by omega)
  have : (1024 : Nat) ^ 3 ≤ 2 ^ 40 := by decide
  unfold y_co
  omega
theorem y_CD (c : Nat → Nat) : ∀ m k, y_C m k c + y_D m k c = y_S c m k * 2 ^ 40
  | 0, _ => (Nat.zero_mul _).symm
  | m + 1, k => by
    have h1 := y_CD c m (k + 1)
    have h2 := y_co_add k
    have h3 : c k * y_co k + c k * 1024 ^ (3 - k) = c k * 2 ^ 40 := by rw [← Nat.mul_add, h2]
    unfold y_C y_D at *
    show c k * y_co k + y_S (fun i => c i * y_co i) m (k + 1) + (c k * 1024 ^ (3 - k) + y_S (fun i => c i * 1024 ^ (3 - i)) m (k + 1)) = (c k + y_S c m (k + 1)) * 2 ^ 40
    rw [Nat.add_mul]
    omega
theorem y_D_lt {c : Nat → Nat} : ∀ m k, k + m = 4 → (∀ i, k ≤ i → i < k + m → c i ≤ 999) → y_D m k c + 1 ≤ 1024 ^ m
  | 0, _, _, _ => by show 0 + 1 ≤ 1; omega
  | m + 1, k, hk, h => by
    have h1 := y_D_lt m (k + 1) (by omega) (fun i a b => h i (by omega) (by omega))
    have h2 := h k (Nat.le_refl _) (by omega)
    show c k * 1024 ^ (3 - k) + y_D m (k + 1) c + 1 ≤ 1024 ^ (m + 1)
    rw [show 3 - k = m by omega, Nat.pow_succ]
    have h3 : c k * 1024 ^ m ≤ 999 * 1024 ^ m := Nat.mul_le_mul_right _ h2
    omega
/-- all the same, with fewer kinds -/
theorem y_D_lt' {c : Nat → Nat} {m k : Nat} (hk : k + m ≤ 4) (h : ∀ i, k ≤ i → i < k + m → c i ≤ 999) : y_D m k c + 1 ≤ 1024 ^ (4 - k) := by
  have e1 : ∀ q m k, y_D m k c ≤ y_D (m + q) k (fun i => if i < k + m then c i else 0) := by
    intro q m k
    have e : y_D m k c = y_D m k (fun i => if i < k + m then c i else 0) := by
      unfold y_D
      refine y_S_cg m k (fun i a b => ?_)
      show c i * _ = (if i < k + m then c i else 0) * _
      rw [if_pos b]
    rw [e]
    generalize (fun i => if i < k + m then c i else 0) = c'
    induction q with
    | zero => exact Nat.le_refl _
    | succ q ih =>
      refine Nat.le_trans ih ?_
      show y_S _ (m + q) k ≤ y_S _ (m + q + 1) k
      rw [y_S_last]
      exact Nat.le_add_right _ _
  have h1 := e1 (4 - k - m) m k
  have h2 := y_D_lt (c := fun i => if i < k + m then c i else 0) (m + (4 - k - m)) k (by omega) (fun i a b => by
    show (if i < k + m then c i else 0) ≤ 999
    by_cases hi : i < k + m
    · rw [if_pos hi]
      exact h i a hi
    · rw [if_neg hi]
      omega)
  rw [show m + (4 - k - m) = 4 - k by omega] at h1 h2
  omega
def y_low (h : Nat → Nat) : Nat → Nat
  | 0 => 1000000
  | n + 1 => min (y_low h n) (h n)
theorem y_low_le (h : Nat → Nat) : ∀ n, y_low h n ≤ 1000000
  | 0 => Nat.le_refl _
  | n + 1 => Nat.le_trans (Nat.min_le_left _ _) (y_low_le h n)
theorem y_low_at (h : Nat → Nat) : ∀ n i, i < n → y_low h n ≤ h i
  | 0, i, hi => by omega
  | n + 1, i, hi => by
    by_cases e : i = n
    · subst e
      exact Nat.min_le_right _ _
    · exact Nat.le_trans (Nat.min_le_left _ _) (y_low_at h n i (by omega))
theorem y_low_ex (h : Nat → Nat) : ∀ n, y_low h n < 1000000 → ∃ i, i < n ∧ h i = y_low h n
  | 0, hl => by simp [y_low] at hl
  | n + 1, hl => by
    by_cases e : h n ≤ y_low h n
    · exact ⟨n, Nat.lt_succ_self _, (Nat.min_eq_right e).symm⟩
    · have e2 : y_low h (n + 1) = y_low h n := Nat.min_eq_left (by omega)
      obtain ⟨i, h1, h2⟩ := y_low_ex h n (by omega)
      exact ⟨i, by omega, by rw [e2]; exact h2⟩
def y_few (w a : Nat → Nat) : Nat → Nat → Nat → Nat
  | 0, _, s => if s = 0 then 0 else 1000000
  | m + 1, k, s => y_low (fun c => c + y_few w a m (k + 1) (s - c * w k)) (min (a k) (s / w k) + 1)
theorem y_few_le (w a : Nat → Nat) : ∀ m k s, y_few w a m k s ≤ 1000000
  | 0, _, s => by unfold y_few; split <;> omega
  | m + 1, k, s => y_low_le _ _
theorem y_few_lo {w a : Nat → Nat} : ∀ m k s c, (∀ i, k ≤ i → i < k + m → 1 ≤ w i) → y_F w a m k s c → y_few w a m k s ≤ y_S c m k
  | 0, k, s, c, _, h => by
    have : s = 0 := h.2.symm
    subst this
    exact Nat.le_refl 0
  | m + 1, k, s, c, hw, h => by
    have h2 : c k * w k + y_S (fun i => c i * w i) m (k + 1) = s := h.2
    have hwk := hw k (Nat.le_refl _) (by omega)
    have hc : c k ≤ s / w k := (Nat.le_div_iff_mul_le hwk).mpr (by omega)
    have ha := h.1 k (Nat.le_refl _) (by omega)
    have e1 : y_few w a (m + 1) k s ≤ c k + y_few w a m (k + 1) (s - c k * w k) := y_low_at _ _ (c k) (by have := Nat.le_min.mpr ⟨ha, hc⟩; omega)
    have e2 := y_few_lo m (k + 1) (s - c k * w k) c (fun i a b => hw i (by omega) (by omega)) ⟨fun i a b => h.1 i (by omega) (by omega), by omega⟩
    show _ ≤ c k + y_S c m (k + 1)
    omega
def y_top (P : Nat → Bool) : Nat → Nat
  | 0 => 0
  | n + 1 => if P (n + 1) then n + 1 else y_top P n
theorem y_top_le (P : Nat → Bool) : ∀ n, y_top P n ≤ n
  | 0 => Nat.le_refl _
  | n + 1 => by
    unfold y_top
    have := y_top_le P n
    split <;> omega
theorem y_top_P {P : Nat → Bool} : ∀ n i, i ≤ n → P i = true → P (y_top P n) = true
  | 0, i, h, hp => by
    obtain rfl : i = 0 := by omega
    exact hp
  | n + 1, i, h, hp => by
    unfold y_top
    split
    · assumption
    · rename_i hn
      refine y_top_P n i ?_ hp
      have : i ≠ n + 1 := fun e => hn (e ▸ hp)
      omega
theorem y_top_max {P : Nat → Bool} : ∀ n i, i ≤ n → P i = true → i ≤ y_top P n
  | 0, i, h, hp => by omega
  | n + 1, i, h, hp => by
    unfold y_top
    split
    · exact h
    · rename_i hn
      refine y_top_max n i ?_ hp
      have : i ≠ n + 1 := fun e => hn (e ▸ hp)
      omega
def y_pick (w a : Nat → Nat) (m k s : Nat) : Nat := y_top (fun c => c + y_few w a m (k + 1) (s - c * w k) == y_few w a (m + 1) k s) (min (a k) (s / w k))
def y_vec (w a : Nat → Nat) : Nat → Nat → Nat → Nat → Nat
  | 0, _, _ => fun _ => 0
  | m + 1, k, s => fun i => if i = k then y_pick w a m k s else y_vec w a m (k + 1) (s - y_pick w a m k s * w k) i
theorem y_F_999 {w a c : Nat → Nat} {m k s : Nat} (hw : ∀ i, k ≤ i → i < k + m → 1 ≤ w i) (hs : s ≤ 999) (h : y_F w a m k s c) : ∀ i, k ≤ i → i < k + m → c i ≤ 999 := by
  intro i h1 h2
  have h3 := y_S_mem (f := fun i => c i * w i) m k i h1 h2
  have h4 : c i * 1 ≤ c i * w i := Nat.mul_le_mul_left _ (hw i h1 h2)
  rw [h.2] at h3
  omega
theorem y_pick_ok {w a : Nat → Nat} {m k s : Nat} (hl : y_few w a (m + 1) k s < 1000000) : y_pick w a m k s + y_few w a m (k + 1) (s - y_pick w a m k s * w k) = y_few w a (m + 1) k s ∧ y_pick w a m k s ≤ min (a k) (s / w k) := by
  obtain ⟨i, h1, h2⟩ := y_low_ex _ _ hl
  have h3 := y_top_P (P := fun c => c + y_few w a m (k + 1) (s - c * w k) == y_few w a (m + 1) k s) (min (a k) (s / w k)) i (by omega) (beq_iff_eq.mpr h2)
  exact ⟨beq_iff_eq.mp h3, y_top_le _ _⟩
theorem y_vec_ok {w a : Nat → Nat} : ∀ m k s, (∀ i, k ≤ i → i < k + m → 1 ≤ w i) → k + m ≤ 4 → s ≤ 999 → y_few w a m k s < 1000000 → y_F w a m k s (y_vec w a m k s) ∧ y_S (y_vec w a m k s) m k = y_few w a m k s ∧ ∀ c, y_F w a m k s c → y_S c m k = y_few w a m k s → y_D m k c ≤ y_D m k (y_vec w a m k s)
  | 0, k, s, _, _, _, hl => by
    by_cases h0 : s = 0
    · subst h0
      exact ⟨⟨fun i a b => by omega, rfl⟩, rfl, fun _ _ _ => Nat.le_refl _⟩
    · unfold y_few at hl
      rw [if_neg h0] at hl
      omega
  | m + 1, k, s, hw, hk, hs, hl => by
    obtain ⟨hp, hp2⟩ := y_pick_ok hl
    have hwk := hw k (Nat.le_refl _) (by omega)
    obtain ⟨P, hP⟩ : ∃ P, y_pick w a m k s = P := ⟨_, rfl⟩
    rw [hP] at hp hp2
    have hP1 : P ≤ a k := Nat.le_trans hp2 (Nat.min_le_left _ _)
    have hP2 : P * w k ≤ s := (Nat.le_div_iff_mul_le hwk).mp (Nat.le_trans hp2 (Nat.min_le_right _ _))
    have hw' : ∀ i, k + 1 ≤ i → i < k + 1 + m → 1 ≤ w i := fun i a b => hw i (by omega) (by omega)
    have hfew : y_few w a m (k + 1) (s - P * w k) < 1000000 := by
      have h9 := Nat.le_add_left (y_few w a m (k + 1) (s - P * w k)) P
      rw [hp] at h9
      exact Nat.lt_of_le_of_lt h9 hl
    obtain ⟨i1, i2, i3⟩ := y_vec_ok m (k + 1) (s - P * w k) hw' (by omega) (by omega) hfew
    have ev : y_vec w a (m + 1) k s = fun i => if i = k then P else y_vec w a m (k + 1) (s - P * w k) i := by
      show (fun i => if i = k then y_pick w a m k s else y_vec w a m (k + 1) (s - y_pick w a m k s * w k) i) = _
      rw [hP]
    have tail : ∀ (h : Nat → Nat → Nat), y_S (fun i => h (y_vec w a (m + 1) k s i) i) m (k + 1) = y_S (fun i => h (y_vec w a m (k + 1) (s - P * w k) i) i) m (k + 1) := by
      intro h
      refine y_S_cg m (k + 1) (fun i a b => ?_)
      rw [ev]
      show h (if i = k then P else _) i = _
      rw [if_neg (by omega)]
    have hd : y_vec w a (m + 1) k s k = P := by rw [ev]; exact if_pos rfl
    refine ⟨⟨fun i h1 h2 => ?_, ?_⟩, ?_, fun c hc hcs => ?_⟩
    · by_cases e : i = k
      · subst e
        rw [hd]
        exact hP1
      · rw [ev]
        show (if i = k then P else _) ≤ a i
        rw [if_neg e]
        exact i1.1 i (by omega) (by omega)
    · show y_vec w a (m + 1) k s k * w k + y_S (fun i => y_vec w a (m + 1) k s i * w i) m (k + 1) = s
      rw [tail (fun x i => x * w i), hd, i1.2]
      omega
    · show y_vec w a (m + 1) k s k + y_S (fun i => y_vec w a (m + 1) k s i) m (k + 1) = _
      rw [tail (fun x _ => x), hd, i2]
      exact hp
    · have hc2 : c k * w k + y_S (fun i => c i * w i) m (k + 1) = s := hc.2
      have hcs2 : c k + y_S c m (k + 1) = y_few w a (m + 1) k s := hcs
      have hck : c k ≤ s / w k := (Nat.le_div_iff_mul_le hwk).mpr (by omega)
      have hca := hc.1 k (Nat.le_refl _) (by omega)
      have hcF : y_F w a m (k + 1) (s - c k * w k) c := ⟨fun i a b => hc.1 i (by omega) (by omega), by omega⟩
      have l1 := y_few_lo m (k + 1) (s - c k * w k) c hw' hcF
      have l2 : y_few w a (m + 1) k s ≤ c k + y_few w a m (k + 1) (s - c k * w k) := y_low_at _ _ (c k) (by have := Nat.le_min.mpr ⟨hca, hck⟩; omega)
      have l3 : c k + y_few w a m (k + 1) (s - c k * w k) = y_few w a (m + 1) k s := by omega
      have l4 : c k ≤ P := by
        rw [← hP]
        exact y_top_max _ (c k) (Nat.le_min.mpr ⟨hca, hck⟩) (beq_iff_eq.mpr l3)
      show c k * 1024 ^ (3 - k) + y_D m (k + 1) c ≤ y_vec w a (m + 1) k s k * 1024 ^ (3 - k) + y_S (fun i => y_vec w a (m + 1) k s i * 1024 ^ (3 - i)) m (k + 1)
      rw [tail (fun x i => x * 1024 ^ (3 - i)), hd]
      by_cases e : c k = P
      · rw [e] at hcF l3 ⊢
        have := i3 c hcF (by omega)
        exact Nat.add_le_add_left this _
      · have l5 := y_D_lt' (m := m) (k := k + 1) (by omega) (y_F_999 hw' (by omega) hcF)
        have l6 : (c k + 1) * 1024 ^ (3 - k) ≤ P * 1024 ^ (3 - k) := Nat.mul_le_mul_right _ (by omega)
        rw [Nat.add_mul, Nat.one_mul] at l6
        rw [show 4 - (k + 1) = 3 - k by omega] at l5
        omega
/-- THE way: its number, or 2 ^ 60 -/
def y_way (w a : Nat → Nat) (K s : Nat) : Nat := if y_few w a K 0 s < 1000000 then y_C K 0 (y_vec w a K 0 s) else 2 ^ 60
def y_T (w a : Nat → Nat) (m s x : Nat) : Prop := (∃ c, y_F w a m 0 s c ∧ x = y_C m 0 c ∧ ∀ c', y_F w a m 0 s c' → y_C m 0 c ≤ y_C m 0 c') ∨ ((∀ c, ¬ y_F w a m 0 s c) ∧ x = 2 ^ 60)
theorem y_T_way {w a : Nat → Nat} {K s x : Nat} (hw : ∀ i, i < K → 1 ≤ w i) (hK : K ≤ 4) (hs : s ≤ 999) (h : y_T w a K s x) : x = y_way w a K s := by
  have hw' : ∀ i, 0 ≤ i → i < 0 + K → 1 ≤ w i := fun i _ b => hw i (by omega)
  unfold y_way
  by_cases hl : y_few w a K 0 s < 1000000
  · rw [if_pos hl]
    obtain ⟨v1, v2, v3⟩ := y_vec_ok K 0 s hw' (by omega) hs hl
    rcases h with ⟨c, c1, rfl, c3⟩ | ⟨h1, _⟩
    · have l1 := y_few_lo K 0 s c hw' c1
      have l2 := c3 _ v1
      have e1 := y_CD c K 0
      have e2 := y_CD (y_vec w a K 0 s) K 0
      have d1 := y_D_lt' (m := K) (k := 0) (by omega) (y_F_999 hw' hs c1)
      have d2 := y_D_lt' (m := K) (k := 0) (by omega) (y_F_999 hw' hs v1)
      rw [show (1024 : Nat) ^ (4 - 0) = 2 ^ 40 from rfl] at d1 d2
      have l3 : y_S c K 0 = y_few w a K 0 s := by omega
      have l4 := v3 c c1 l3
      omega
    · exact absurd v1 (h1 _)
  · rw [if_neg hl]
    rcases h with ⟨c, c1, _, _⟩ | ⟨_, h1⟩
    · have l1 := y_few_lo K 0 s c hw' c1
      have l2 := y_F_999 hw' hs c1
      have l3 : y_S c K 0 ≤ y_S (fun _ => 999) K 0 := y_S_le K 0 l2
      have l4 : ∀ m k, y_S (fun _ => 999) m k = m * 999 := by
        intro m
        induction m with
        | zero => intro k; exact (Nat.zero_mul _).symm
        | succ m ih => intro k; show 999 + y_S _ m (k + 1) = _; rw [ih]; omega
      rw [l4] at l3
      omega
    · exact h1
