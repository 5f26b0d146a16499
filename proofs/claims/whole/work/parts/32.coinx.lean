/-! one KIND more -/
def y_X (w co b : Nat) (T : Nat → Nat) (s x : Nat) : Prop := x ≤ 2 ^ 60 ∧ (∀ i, i ≤ b → i * w ≤ s → x ≤ T (s - i * w) + i * co) ∧ (x = 2 ^ 60 ∨ ∃ i, i ≤ b ∧ i * w ≤ s ∧ x = T (s - i * w) + i * co)
def y_av (a : Nat → Nat) (m b : Nat) : Nat → Nat := fun i => if i = m then b else a i
theorem y_C_lt {w a c : Nat → Nat} {m s : Nat} (hw : ∀ i, i < m → 1 ≤ w i) (hm : m ≤ 4) (hs : s ≤ 999) (h : y_F w a m 0 s c) : y_C m 0 c < 2 ^ 60 := by
  have h1 := y_CD c m 0
  have h2 := y_F_999 (fun i _ b => hw i (by omega)) hs h
  have h3 : y_S c m 0 ≤ y_S (fun _ => 999) m 0 := y_S_le m 0 h2
  have h4 : ∀ m k, y_S (fun _ => 999) m k = m * 999 := by
    intro m
    induction m with
    | zero => intro k; exact (Nat.zero_mul _).symm
    | succ m ih => intro k; show 999 + y_S _ m (k + 1) = _; rw [ih]; omega
  rw [h4] at h3
  omega
theorem y_F_up {w a c : Nat → Nat} {m s b : Nat} (h : y_F w (y_av a m b) (m + 1) 0 s c) : c m ≤ b ∧ c m * w m ≤ s ∧ y_F w a m 0 (s - c m * w m) c := by
  have h1 := h.1 m (Nat.zero_le _) (by omega)
  have h2 := h.2
  rw [y_S_last, Nat.zero_add] at h2
  have h2 : y_S (fun i => c i * w i) m 0 + c m * w m = s := h2
  refine ⟨?_, by omega, fun i a1 b1 => ?_, by omega⟩
  · unfold y_av at h1
    rw [if_pos rfl] at h1
    exact h1
  · have h3 := h.1 i a1 (by omega)
    unfold y_av at h3
    rw [if_neg (by omega)] at h3
    exact h3
theorem y_F_dn {w a c : Nat → Nat} {m s b i : Nat} (hi : i ≤ b) (hs : i * w m ≤ s) (h : y_F w a m 0 (s - i * w m) c) : y_F w (y_av a m b) (m + 1) 0 s (y_av c m i) ∧ y_C (m + 1) 0 (y_av c m i) = y_C m 0 c + i * y_co m := by
  have e : ∀ (f : Nat → Nat → Nat), y_S (fun j => f (y_av c m i j) j) m 0 = y_S (fun j => f (c j) j) m 0 := by
    intro f
    refine y_S_cg m 0 (fun j a b => ?_)
    unfold y_av
    rw [if_neg (by omega)]
  have em : y_av c m i m = i := if_pos rfl
  refine ⟨⟨fun j a1 b1 => ?_, ?_⟩, ?_⟩
  · unfold y_av
    by_cases hj : j = m
    · rw [if_pos hj, if_pos hj]
      exact hi
    · rw [if_neg hj, if_neg hj]
      exact h.1 j a1 (by omega)
  · rw [y_S_last, Nat.zero_add]
    show y_S (fun j => y_av c m i j * w j) m 0 + y_av c m i m * w m = s
    rw [e (fun x j => x * w j), em, h.2]
    omega
  · unfold y_C
    rw [y_S_last, Nat.zero_add]
    show y_S (fun j => y_av c m i j * y_co j) m 0 + y_av c m i m * y_co m = _
    rw [e (fun x j => x * y_co j), em]
theorem y_T_X {w a : Nat → Nat} {m b s x : Nat} {T : Nat → Nat} (hw : ∀ i, i < m + 1 → 1 ≤ w i) (hm : m < 4) (hs : s ≤ 999) (hT : ∀ s', s' ≤ s → y_T w a m s' (T s')) (hX : y_X (w m) (y_co m) b T s x) : y_T w (y_av a m b) (m + 1) s x := by
  have lo : ∀ c, y_F w (y_av a m b) (m + 1) 0 s c → x ≤ y_C (m + 1) 0 c := by
    intro c hc
    obtain ⟨h1, h2, h3⟩ := y_F_up hc
    have h4 := hX.2.1 (c m) h1 h2
    have h5 : y_C (m + 1) 0 c = y_C m 0 c + c m * y_co m := by
      unfold y_C
      rw [y_S_last, Nat.zero_add]
    rcases hT (s - c m * w m) (by omega) with ⟨c0, _, e, g⟩ | ⟨g, _⟩
    · have := g c h3
      omega
    · exact absurd h3 (g c)
  by_cases hx : x = 2 ^ 60
  · refine Or.inr ⟨fun c hc => ?_, hx⟩
    have h1 := lo c hc
    have h2 := y_C_lt hw (by omega) hs hc
    omega
  · obtain ⟨i, h1, h2, h3⟩ := hX.2.2.resolve_left hx
    have hl := hX.1
    rcases hT (s - i * w m) (by omega) with ⟨c0, f, e, g⟩ | ⟨g, e⟩
    · obtain ⟨f1, f2⟩ := y_F_dn h1 h2 f
      refine Or.inl ⟨_, f1, by omega, fun c' hc' => ?_⟩
      have := lo c' hc'
      omega
    · omega
theorem y_T_0 (w a : Nat → Nat) (s : Nat) : y_T w a 0 s (if s = 0 then 0 else 2 ^ 60) := by
  by_cases h : s = 0
  · subst h
    exact Or.inl ⟨fun _ => 0, ⟨fun i a b => by omega, rfl⟩, rfl, fun _ _ => Nat.le_refl _⟩
  · rw [if_neg h]
    exact Or.inr ⟨fun c hc => h hc.2.symm, rfl⟩
theorem y_T_le {w a : Nat → Nat} {m s x : Nat} (hw : ∀ i, i < m → 1 ≤ w i) (hm : m ≤ 4) (hs : s ≤ 999) (h : y_T w a m s x) : x ≤ 2 ^ 60 := by
  rcases h with ⟨c, f, rfl, _⟩ | ⟨_, rfl⟩
  · exact Nat.le_of_lt (y_C_lt hw hm hs f)
  · exact Nat.le_refl _
theorem y_T_cg {w a a' : Nat → Nat} {m s x : Nat} (h : ∀ i, i < m → ∀ j, j * w i ≤ s → (j ≤ a i ↔ j ≤ a' i)) (hT : y_T w a m s x) : y_T w a' m s x := by
  have key : ∀ c, y_F w a m 0 s c ↔ y_F w a' m 0 s c := by
    intro c
    constructor
    · intro hc
      refine ⟨fun i a1 b1 => ?_, hc.2⟩
      have h1 := y_S_mem (f := fun i => c i * w i) m 0 i a1 b1
      rw [hc.2] at h1
      exact (h i (by omega) (c i) h1).mp (hc.1 i a1 b1)
    · intro hc
      refine ⟨fun i a1 b1 => ?_, hc.2⟩
      have h1 := y_S_mem (f := fun i => c i * w i) m 0 i a1 b1
      rw [hc.2] at h1
      exact (h i (by omega) (c i) h1).mpr (hc.1 i a1 b1)
  rcases hT with ⟨c, f, e, g⟩ | ⟨g, e⟩
  · exact Or.inl ⟨c, (key c).mp f, e, fun c' hc' => g c' ((key c').mpr hc')⟩
  · exact Or.inr ⟨fun c hc => g c ((key c).mpr hc), e⟩
theorem y_T_z {w a : Nat → Nat} {m x : Nat} (h : y_T w a m 0 x) : x = 0 := by
  have hz : ∀ k, y_S (fun i => 0 * w i) k 0 = 0 := by
    intro k
    induction k with
    | zero => rfl
    | succ k ih => rw [y_S_last, ih]; show 0 + 0 * _ = 0; rw [Nat.zero_mul]
  have f0 : y_F w a m 0 0 (fun _ => 0) := ⟨fun i _ _ => Nat.zero_le _, hz m⟩
  have c0 : ∀ k, y_C k 0 (fun _ => 0) = 0 := by
    intro k
    unfold y_C
    induction k with
    | zero => rfl
    | succ k ih => rw [y_S_last, ih]; show 0 + 0 * _ = 0; rw [Nat.zero_mul]
  rcases h with ⟨c, f, rfl, g⟩ | ⟨g, _⟩
  · have := g _ f0
    rw [c0] at this
    omega
  · exact absurd f0 (g _)
/-! sums of one KIND -/
theorem y_X_0 {w co : Nat} {T : Nat → Nat} {s : Nat} (h : T s ≤ 2 ^ 60) : y_X w co 0 T s (T s) := by
  refine ⟨h, fun i hi hs => ?_, Or.inr ⟨0, Nat.le_refl _, by omega, ?_⟩⟩
  · obtain rfl : i = 0 := by omega
    rw [Nat.zero_mul, Nat.zero_mul]
    exact Nat.le_refl _
  · rw [Nat.zero_mul, Nat.zero_mul]
    rfl
theorem y_X_mono {w co b b' : Nat} {T : Nat → Nat} {s x : Nat} (hb : b ≤ b') (h : y_X w co b T s x) (hn : ∀ i, i ≤ b' → i * w ≤ s → i ≤ b) : y_X w co b' T s x :=
  ⟨h.1, fun i h1 h2 => h.2.1 i (hn i h1 h2) h2, h.2.2.imp id (fun ⟨i, h1, h2, h3⟩ => ⟨i, by omega, h2, h3⟩)⟩
theorem y_X_b {w co b z : Nat} {T U : Nat → Nat} {s : Nat} (hz : z ≤ b + 1) (h : ∀ s', s' ≤ s → y_X w co b T s' (U s')) : y_X w co (b + z) T s (if z * w ≤ s then min (U s) (U (s - z * w) + z * co) else U s) := by
  have h0 := h s (Nat.le_refl _)
  by_cases hc : z * w ≤ s
  · rw [if_pos hc]
    have h1 := h (s - z * w) (by omega)
    refine ⟨Nat.le_trans (Nat.min_le_left _ _) h0.1, fun i hi his => ?_, ?_⟩
    · by_cases hib : i ≤ b
      · exact Nat.le_trans (Nat.min_le_left _ _) (h0.2.1 i hib his)
      · have e1 : i * w = (i - z) * w + z * w := by rw [← Nat.add_mul]; congr 1; omega
        have e2 : i * co = (i - z) * co + z * co := by rw [← Nat.add_mul]; congr 1; omega
        have h2 := h1.2.1 (i - z) (by omega) (by omega)
        rw [show s - z * w - (i - z) * w = s - i * w by omega] at h2
        refine Nat.le_trans (Nat.min_le_right _ _) ?_
        omega
    · by_cases hl : U s ≤ U (s - z * w) + z * co
      · rw [Nat.min_eq_left hl]
        exact h0.2.2.imp id (fun ⟨i, a, b, e⟩ => ⟨i, by omega, b, e⟩)
      · rw [Nat.min_eq_right (by omega)]
        rcases h1.2.2 with e | ⟨i, a, b1, e⟩
        · have := h0.1
          omega
        · have e1 : (i + z) * w = i * w + z * w := Nat.add_mul _ _ _
          have e2 : (i + z) * co = i * co + z * co := Nat.add_mul _ _ _
          refine Or.inr ⟨i + z, by omega, by omega, ?_⟩
          rw [show s - (i + z) * w = s - z * w - i * w by omega]
          omega
  · rw [if_neg hc]
    refine y_X_mono (by omega) h0 (fun i hi his => ?_)
    by_cases hib : i ≤ b
    · exact hib
    · have e1 : i * w = (i - z) * w + z * w := by rw [← Nat.add_mul]; congr 1; omega
      omega
theorem y_X_p {w co : Nat} {T V : Nat → Nat} (hw : 1 ≤ w) (hT : ∀ s, T s ≤ 2 ^ 60) (hV : ∀ s, V s = if w ≤ s then min (T s) (V (s - w) + co) else T s) : ∀ q s, s ≤ q → y_X w co s T s (V s) := by
  intro q
  induction q with
  | zero =>
    intro s hs
    rw [hV, if_neg (by omega)]
    refine y_X_mono (Nat.zero_le _) (y_X_0 (hT s)) (fun i hi his => by omega)
  | succ q ih =>
    intro s hs
    rw [hV]
    by_cases hc : w ≤ s
    · rw [if_pos hc]
      have h1 := ih (s - w) (by omega)
      refine ⟨Nat.le_trans (Nat.min_le_left _ _) (hT s), fun i hi his => ?_, ?_⟩
      · by_cases hi0 : i = 0
        · subst hi0
          rw [Nat.zero_mul, Nat.zero_mul]
          exact Nat.min_le_left _ _
        · have e1 : i * w = (i - 1) * w + w := by rw [show i * w = (i - 1 + 1) * w by congr 1; omega, Nat.add_mul, Nat.one_mul]
          have e2 : i * co = (i - 1) * co + co := by rw [show i * co = (i - 1 + 1) * co by congr 1; omega, Nat.add_mul, Nat.one_mul]
          have e3 : (i - 1) * 1 ≤ (i - 1) * w := Nat.mul_le_mul_left _ hw
          have h2 := h1.2.1 (i - 1) (by omega) (by omega)
          rw [show s - w - (i - 1) * w = s - i * w by omega] at h2
          refine Nat.le_trans (Nat.min_le_right _ _) ?_
          omega
      · by_cases hl : T s ≤ V (s - w) + co
        · rw [Nat.min_eq_left hl]
          refine Or.inr ⟨0, by omega, by omega, ?_⟩
          rw [Nat.zero_mul, Nat.zero_mul]
          rfl
        · rw [Nat.min_eq_right (by omega)]
          rcases h1.2.2 with e | ⟨i, a, b1, e⟩
          · have := hT s
            omega
          · have e1 : (i + 1) * w = i * w + w := by rw [Nat.add_mul, Nat.one_mul]
            have e2 : (i + 1) * co = i * co + co := by rw [Nat.add_mul, Nat.one_mul]
            refine Or.inr ⟨i + 1, by omega, by omega, ?_⟩
            rw [show s - (i + 1) * w = s - w - i * w by omega]
            omega
    · rw [if_neg hc]
      refine y_X_mono (Nat.zero_le _) (y_X_0 (hT s)) (fun i hi his => ?_)
      by_cases hi0 : i = 0
      · omega
      · have e1 : i * w = (i - 1) * w + w := by rw [show i * w = (i - 1 + 1) * w by congr 1; omega, Nat.add_mul, Nat.one_mul]
        omega
theorem y_X_a {w co b s : Nat} {T V : Nat → Nat} (hw : 1 ≤ w) (hT0 : T 0 = 0) (hT : ∀ s', s' ≤ s → s' ≠ 0 → T s' = 2 ^ 60) (h1 : ∀ i, i ≤ b → i * w ≤ s → i * co ≤ 2 ^ 60) (hV1 : ∀ i, i ≤ b → i * w = s → V s = i * co) (hV2 : (∀ i, i ≤ b → i * w ≠ s) → V s = 2 ^ 60) : y_X w co b T s (V s) := by
  by_cases h : ∃ i, i ≤ b ∧ i * w = s
  · obtain ⟨i, hi, e⟩ := h
    have ev := hV1 i hi e
    have hl := h1 i hi (by omega)
    refine ⟨by omega, fun j hj hjs => ?_, Or.inr ⟨i, hi, by omega, ?_⟩⟩
    · by_cases hij : j = i
      · subst hij
        omega
      · by_cases hz : s - j * w = 0
        · have : j * w = i * w := by omega
          exact absurd (Nat.eq_of_mul_eq_mul_right (by omega) this) hij
        · rw [hT (s - j * w) (by omega) hz]
          omega
    · rw [show s - i * w = 0 by omega, hT0, ev, Nat.zero_add]
  · have hn : ∀ i, i ≤ b → i * w ≠ s := fun i hi e => h ⟨i, hi, e⟩
    rw [hV2 hn]
    refine ⟨Nat.le_refl _, fun j hj hjs => ?_, Or.inl rfl⟩
    have := hn j hj
    rw [hT (s - j * w) (by omega) (by omega)]
    omega
