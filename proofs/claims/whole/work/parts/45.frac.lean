/-! sets of k among n -/
def y_sA (n k : Nat) : Nat → Nat
  | 0 => 1
  | i + 1 => y_sA n k i * (n - k + (i + 1)) / (i + 1)
def y_sB (n : Nat) : Nat → Nat
  | 0 => 1
  | i + 1 => y_sB n i * (n - i) / (i + 1)
theorem y_chk : ∀ n, n < 31 → ∀ k, k < 31 → k ≤ n → y_sA n k k = y_sB n k ∧ y_sB n k < 268435456 ∧ 1 ≤ y_sB n k := by decide +kernel
theorem y_sA_eq (n k : Nat) : ∀ i, y_sA n k i = y_sA (n - k + i) i i := by
  have key : ∀ n k n' k' j, n - k = n' - k' → y_sA n k j = y_sA n' k' j := by
    intro n k n' k' j e
    induction j with
    | zero => rfl
    | succ j ih =>
      show y_sA n k j * (n - k + (j + 1)) / (j + 1) = y_sA n' k' j * (n' - k' + (j + 1)) / (j + 1)
      rw [ih, e]
  intro i
  exact key n k (n - k + i) i i (by omega)
def y_ch (n k : Nat) : Nat := if n < k then 0 else y_sB n k
theorem y_ch_mono1 : ∀ n, n < 30 → ∀ k, k < 31 → y_ch n k ≤ y_ch (n + 1) k := by decide +kernel
theorem y_ch_mono {n m k : Nat} (hn : n ≤ 30) (hk : k < 31) : y_ch (n - m) k ≤ y_ch n k := by
  have : ∀ q, q ≤ n → y_ch (n - q) k ≤ y_ch n k := by
    intro q
    induction q with
    | zero => intro _; exact Nat.le_refl _
    | succ q ih =>
      intro hq
      have h1 := y_ch_mono1 (n - (q + 1)) (by omega) k hk
      rw [show n - (q + 1) + 1 = n - q by omega] at h1
      exact Nat.le_trans h1 (ih (by omega))
  by_cases h : m ≤ n
  · exact this m h
  · rw [show n - m = n - n by omega]
    exact this n (Nat.le_refl _)
theorem y_ch_lt {n k : Nat} (hn : n ≤ 30) : y_ch n k < 268435456 := by
  unfold y_ch
  split
  · decide
  · exact (y_chk n (by omega) k (by omega) (by omega)).2.1
theorem y_ch_1 {n k : Nat} (hn : n ≤ 30) (hk : k ≤ n) : 1 ≤ y_ch n k := by
  unfold y_ch
  rw [if_neg (by omega)]
  exact (y_chk n (by omega) k (by omega) hk).2.2
/-! Euclid's steps -/
theorem y_gs (a b : Nat) : Nat.gcd a b = Nat.gcd b (a % b) := by rw [Nat.gcd_comm a b, Nat.gcd_rec b a, Nat.gcd_comm]
theorem y_half {b r : Nat} (hr : r < b) (h0 : 0 < r) : 2 * (b % r) < b := by
  have h1 := Nat.mod_lt b h0
  by_cases h : 2 * r ≤ b
  · omega
  · have h2 : b % r = b - r := by
      rw [Nat.mod_eq_sub_mod (by omega), Nat.mod_eq_of_lt (by omega)]
    omega
def sp_forged (x y z : Int32) : Option (Nat × Nat) := if (x_wi x 1 30 && (x_wi y 0 x && x_wi z 0 x)) = true then some ((y_ch (x_c x) (x_c z) - y_ch (x_c x - x_c y) (x_c z)) / Nat.gcd (y_ch (x_c x) (x_c z) - y_ch (x_c x - x_c y) (x_c z)) (y_ch (x_c x) (x_c z)), y_ch (x_c x) (x_c z) / Nat.gcd (y_ch (x_c x) (x_c z) - y_ch (x_c x - x_c y) (x_c z)) (y_ch (x_c x) (x_c z))) else none
def y_look (v : xV) (n m : Nat) : Nat → Nat → Option (Int32 × xV)
  | 0, _ => none
  | q + 1, k => if y_ch n k ≤ 2 * (y_ch n k - y_ch (n - m) k) then some (nI k, v) else y_look v n m q (k + 1)
def sp_looks (v : xV) (x y : Int32) : xS := x_sq 6 (x_wi x 1 30 && x_wi y 0 x) (y_look v (x_c x) (x_c y) (x_c x + 1) 0) v
/-- a call that tells a FRACTION: its answer, STATUS, the FRACTION at two places of an object -/
def x_QF (o s t b : Nat) (f : Nat → Nat → Int32) (g : Nat → Nat → Int64) (ρ : Nat → Nat → Option Nat) (dm : List Nat) (n : Nat) (e : Int32) (S : Option (Nat × Nat)) : Option Value → xH → Prop := fun q h' => match S with
  | none => q = some (.int 0) ∧ h' = (x_up f o s e, g, ρ, dm, n)
  | some F => q = some (.int 1) ∧ h' = (x_up f o s 0, x_up (x_up g o t (lN F.1)) o b (lN F.2), ρ, dm, n)
section C45
variable {f : Nat → Nat → Int32} {g : Nat → Nat → Int64} {r t : Nat} {ρ : Nat → Nat → Option Nat} {dm : List Nat} {n d N : Nat} {v : xV} {h : xH}
theorem c_setsOf {a k : Nat} (ha : a ≤ 30) (hk : k ≤ 30) : x_V 171 d [.int (nI a), .int (nI k)] h (.long (lN (y_ch a k))) h := by
  have loop : k ≤ a → ∀ m i, i + m = k → x_J 171 d (fun q h' => q = some (.long (lN (y_ch a k))) ∧ h' = h) 12 [some (.int (nI a)), some (.int (nI k)), some (.long (lN (y_sA a k i))), none, some (.int (nI (i + 1)))] [] h 0 0 := by
    intro hka m
    induction m with
    | zero =>
      intro i hi
      obtain rfl : i = k := by omega
      refine x_wp_ok ok171 [12] 4 ?_
      refine And.intro (fun c => ?_) (fun c => ?_)
      · have e : y_sA a i i = y_ch a i := by
          unfold y_ch
          rw [if_neg (by omega)]
          exact (y_chk a (by omega) i (by omega) hka).1
        exact And.intro ⟨(by rw [e]), rfl⟩ ⟨trivial, Nat.le_refl _, Nat.le_refl _⟩
      · have c : ¬ nI i < nI (i + 1) := c
        rw [nI_ltI (by omega) (by omega)] at c
        omega
    | succ m ih =>
      intro i hi
      have h1 := (y_chk (a - k + i) (by omega) i (by omega) (by omega))
      rw [← y_sA_eq] at h1
      have h2 : y_sA a k i * (a - k + (i + 1)) ≤ 268435456 * 31 := Nat.mul_le_mul (by omega) (by omega)
      refine x_wp_ok ok171 [12] 4 ?_
      refine And.intro (fun c => ?_) (fun c => ?_)
      · have c : nI k < nI (i + 1) := c
        rw [nI_ltI (by omega) (by omega)] at c
        omega
      · refine And.intro (by show ¬ (nI (i + 1)).toInt64 = lN 0; rw [nI_l (by omega), pk_lEQ (by omega) (by decide)]; omega) ?_
        have e := ih (i + 1) (by omega)
        rw [nI_succ (i + 1), show y_sA a k (i + 1) = y_sA a k i * (a - k + (i + 1)) / (i + 1) from rfl, ← pk_lDiv (by omega) (by omega) (by omega), ← lN_mul, ← nI_l (show a - k + (i + 1) < 2 ^ 31 by omega), ← nI_l (show i + 1 < 2 ^ 31 by omega), ← nI_add (a - k), ← pk_sub hka] at e
        exact e
  refine x_Ct_w (by decide) (Nat.le_of_ble_eq_true rfl) ok171 [12] 4 ?_
  refine And.intro (fun c => ?_) (fun c => ?_)
  · have c : nI k ≤ nI a := c
    rw [nI_leI (by omega) (by omega)] at c
    exact loop c k 0 (Nat.zero_add _)
  · have c : ¬ nI k ≤ nI a := c
    rw [nI_leI (by omega) (by omega)] at c
    exact And.intro ⟨(by unfold y_ch; rw [if_pos (by omega)]; rfl), rfl⟩ ⟨trivial, Nat.le_refl _, Nat.le_refl _⟩
theorem m_chosen {a k : Nat} (ha : a ≤ 30) (hk : k ≤ 30) : x_V 294 d [.int (nI a), .int (nI k)] h (.long (lN (y_ch a k))) h := by
  have loop : k ≤ a → ∀ m i, i + m = k → x_J 294 d (fun q h' => q = some (.long (lN (y_ch a k))) ∧ h' = h) 12 [some (.int (nI a)), some (.int (nI k)), some (.long (lN (y_sB a i))), none, some (.int (nI i))] [] h 0 0 := by
    intro hka m
    induction m with
    | zero =>
      intro i hi
      obtain rfl : i = k := by omega
      refine x_wp_ok ok294 [12] 4 ?_
      refine And.intro (fun c => ?_) (fun c => ?_)
      · have e : y_sB a i = y_ch a i := by
          unfold y_ch
          rw [if_neg (by omega)]
        exact And.intro ⟨(by rw [e]), rfl⟩ ⟨trivial, Nat.le_refl _, Nat.le_refl _⟩
      · have c : ¬ nI i ≤ nI i := c
        rw [nI_leI (by omega) (by omega)] at c
        omega
    | succ m ih =>
      intro i hi
      have h1 := (y_chk a (by omega) i (by omega) (by omega))
      have h2 : y_sB a i * (a - i) ≤ 268435456 * 31 := Nat.mul_le_mul (by omega) (by omega)
      refine x_wp_ok ok294 [12] 4 ?_
      refine And.intro (fun c => ?_) (fun c => ?_)
      · have c : nI k ≤ nI i := c
        rw [nI_leI (by omega) (by omega)] at c
        omega
      · refine And.intro (by show ¬ (nI i + 1).toInt64 = lN 0; rw [nI_1, nI_l (by omega), pk_lEQ (by omega) (by decide)]; omega) ?_
        have e := ih (i + 1) (by omega)
        rw [show y_sB a (i + 1) = y_sB a i * (a - i) / (i + 1) from rfl, ← pk_lDiv (by omega) (by omega) (by omega), ← lN_mul, ← nI_l (show a - i < 2 ^ 31 by omega), ← nI_l (show i + 1 < 2 ^ 31 by omega), ← pk_sub (show i ≤ a by omega), nI_succ i] at e
        exact e
  refine x_Ct_w (by decide) (Nat.le_of_ble_eq_true rfl) ok294 [12] 4 ?_
  refine And.intro (fun c => ?_) (fun c => ?_)
  · have c : nI k ≤ nI a := c
    rw [nI_leI (by omega) (by omega)] at c
    exact loop c k 0 (Nat.zero_add _)
  · have c : ¬ nI k ≤ nI a := c
    rw [nI_leI (by omega) (by omega)] at c
    exact And.intro ⟨(by unfold y_ch; rw [if_pos (by omega)]; rfl), rfl⟩ ⟨trivial, Nat.le_refl _, Nat.le_refl _⟩
theorem c_tell {a b : Nat} (ha : a < 2 ^ 40) (hb : b < 2 ^ 32) (hb0 : 0 < b) : x_Ct 170 (d + 1) [.ref 0, .long (lN a), .long (lN b)] (f, g, ρ, dm, n) (fun q h' => q = none ∧ h' = (f, x_up (x_up g 0 1 (lN (a / Nat.gcd a b))) 0 2 (lN (b / Nat.gcd a b)), ρ, dm, n)) := by
  obtain ⟨G, hG⟩ : ∃ G, G = Nat.gcd a b := ⟨_, rfl⟩
  have hG0 : 0 < G := by rw [hG]; exact Nat.gcd_pos_of_pos_right _ hb0
  have hGb : G ≤ b := by rw [hG]; exact Nat.gcd_le_right _ hb0
  rw [← hG]
  have fin : ∀ i x l10, x_J 170 (d + 1) (fun q h' => q = none ∧ h' = (f, x_up (x_up g 0 1 (lN (a / G))) 0 2 (lN (b / G)), ρ, dm, n)) 44 [some (.ref 0), some (.long (lN a)), none, some (.long (lN b)), none, some (.long (lN G)), none, some (.long (lN x)), none, some (.int i), l10, none] [] (f, g, ρ, dm, n) 0 0 := by
    intro i x l10
    have e1 : (if lN G < 1 then (1 : Int64) else lN G) = lN G := if_neg (by show ¬ lN G < lN 1; rw [pk_lLT (by omega) (by decide)]; omega)
    have ne : ¬ lN G = 0 := by show ¬ lN G = lN 0; rw [pk_lEQ (by omega) (by decide)]; omega
    refine x_wp_ok ok170 [9] 4 ?_
    refine And.intro (by show ¬ (if lN G < 1 then (1 : Int64) else lN G) = 0; rw [e1]; exact ne) ?_
    refine And.intro (by show ¬ (if lN G < 1 then (1 : Int64) else lN G) = 0; rw [e1]; exact ne) ?_
    refine And.intro ⟨rfl, ?_⟩ ⟨trivial, Nat.le_refl _, Nat.le_refl _⟩
    show (f, x_up (x_up g 0 1 (lN a / (if lN G < 1 then (1 : Int64) else lN G))) 0 2 (lN b / (if lN G < 1 then (1 : Int64) else lN G)), ρ, dm, n) = _
    rw [e1, pk_lDiv (by omega) hG0 (by omega), pk_lDiv (by omega) hG0 (by omega)]
  have stop : ∀ i x l10, Nat.gcd x 0 = G → i ≤ 100 → x_J 170 (d + 1) (fun q h' => q = none ∧ h' = (f, x_up (x_up g 0 1 (lN (a / G))) 0 2 (lN (b / G)), ρ, dm, n)) 9 [some (.ref 0), some (.long (lN a)), none, some (.long (lN b)), none, some (.long (lN x)), none, some (.long (lN 0)), none, some (.int (nI i)), l10, none] [] (f, g, ρ, dm, n) 0 0 := by
    intro i x l10 hx hi
    rw [Nat.gcd_zero_right] at hx
    subst hx
    refine x_wp_ok ok170 [9, 44] 4 ?_
    refine And.intro (fun c => ?_) (fun c => ?_)
    · exact fin _ 0 l10
    · refine And.intro (fun _ => fin _ 0 l10) (fun c => absurd (show lg_cmp (lN 0) (lN 0) = 0 by decide) c)
  have step : ∀ i x y l10, 0 < y → y < 2 ^ 62 → x < 2 ^ 62 → i < 100 → x_J 170 (d + 1) (fun q h' => q = none ∧ h' = (f, x_up (x_up g 0 1 (lN (a / G))) 0 2 (lN (b / G)), ρ, dm, n)) 9 [some (.ref 0), some (.long (lN a)), none, some (.long (lN b)), none, some (.long (lN y)), none, some (.long (lN (x % y))), none, some (.int (nI (i + 1))), some (.long (lN (x % y))), none] [] (f, g, ρ, dm, n) 0 0 → x_J 170 (d + 1) (fun q h' => q = none ∧ h' = (f, x_up (x_up g 0 1 (lN (a / G))) 0 2 (lN (b / G)), ρ, dm, n)) 9 [some (.ref 0), some (.long (lN a)), none, some (.long (lN b)), none, some (.long (lN x)), none, some (.long (lN y)), none, some (.int (nI i)), l10, none] [] (f, g, ρ, dm, n) 0 0 := by
    intro i x y l10 hy hy2 hx hi e
    refine x_wp_ok ok170 [9] 4 ?_
    refine And.intro (fun c => ?_) (fun c => ?_)
    · have c : nI 100 ≤ nI i := c
      rw [nI_leI (by decide) (by omega)] at c
      omega
    · refine And.intro (fun c2 => ?_) (fun c2 => ?_)
      · have c2 : lg_cmp (lN y) (lN 0) = 0 := c2
        rw [x_lg_eq, pk_lEQ (by omega) (by decide)] at c2
        omega
      · refine And.intro (by show ¬ lN y = lN 0; rw [pk_lEQ (by omega) (by decide)]; omega) ?_
        rw [nI_succ i, ← pk_lRem (by omega) hy (by omega)] at e
        exact e
  have loop : ∀ m i x y l10, y < 2 ^ m → m ≤ 32 → x < 2 ^ 62 → i + 2 * m + 1 ≤ 100 → Nat.gcd x y = G → x_J 170 (d + 1) (fun q h' => q = none ∧ h' = (f, x_up (x_up g 0 1 (lN (a / G))) 0 2 (lN (b / G)), ρ, dm, n)) 9 [some (.ref 0), some (.long (lN a)), none, some (.long (lN b)), none, some (.long (lN x)), none, some (.long (lN y)), none, some (.int (nI i)), l10, none] [] (f, g, ρ, dm, n) 0 0 := by
    intro m
    induction m with
    | zero =>
      intro i x y l10 hy hm hx hi hg
      obtain rfl : y = 0 := by omega
      exact stop i x l10 hg (by omega)
    | succ m ih =>
      intro i x y l10 hy hm hx hi hg
      have hp : 2 ^ (m + 1) ≤ 2 ^ 32 := Nat.pow_le_pow_right (by decide) hm
      by_cases hy0 : y = 0
      · subst hy0
        exact stop i x l10 hg (by omega)
      · have hr := Nat.mod_lt x (show 0 < y by omega)
        refine step i x y l10 (by omega) (by omega) hx (by omega) ?_
        rw [y_gs] at hg
        by_cases hr0 : x % y = 0
        · rw [hr0] at hg ⊢
          exact stop (i + 1) y _ hg (by omega)
        · have hh := y_half hr (by omega)
          refine step (i + 1) y (x % y) _ (by omega) (by omega) (by omega) (by omega) ?_
          rw [y_gs] at hg
          exact ih (i + 1 + 1) (x % y) (y % (x % y)) _ (by rw [Nat.pow_succ] at hy; omega) (by omega) (by omega) (by omega) hg
  exact x_Ct_w (by decide) (Nat.le_of_ble_eq_true rfl) ok170 [9] 4 (loop 32 0 a b none hb (Nat.le_refl _) (by omega) (by decide) hG.symm)
theorem m_tells {a b : Nat} (ha : a < 2 ^ 40) (hb : b < 2 ^ 32) (hb0 : 0 < b) : x_V 183 (d + 1) [.ref 500, .long (lN a), .long (lN b)] (f, g, ρ, dm, n) (.int 1) (x_up f 500 2 0, x_up (x_up g 500 3 (lN (a / Nat.gcd a b))) 500 4 (lN (b / Nat.gcd a b)), ρ, dm, n) := by
  obtain ⟨G, hG⟩ : ∃ G, G = Nat.gcd a b := ⟨_, rfl⟩
  have hG0 : 0 < G := by rw [hG]; exact Nat.gcd_pos_of_pos_right _ hb0
  have hGb : G ≤ b := by rw [hG]; exact Nat.gcd_le_right _ hb0
  rw [← hG]
  have ne : ¬ lN G = 0 := by show ¬ lN G = lN 0; rw [pk_lEQ (by omega) (by decide)]; omega
  have loop : ∀ m x y l9, y ≤ m → y < 2 ^ 62 → x < 2 ^ 62 → Nat.gcd x y = G → x_J 183 (d + 1) (fun q h' => q = some (.int 1) ∧ h' = (x_up f 500 2 0, x_up (x_up g 500 3 (lN (a / G))) 500 4 (lN (b / G)), ρ, dm, n)) 6 [some (.ref 500), some (.long (lN a)), none, some (.long (lN b)), none, some (.long (lN x)), none, some (.long (lN y)), none, l9, none] [] (f, g, ρ, dm, n) 0 0 := by
    intro m
    induction m with
    | zero =>
      intro x y l9 hy hy2 hx hg
      obtain rfl : y = 0 := Nat.le_zero.mp hy
      rw [Nat.gcd_zero_right] at hg
      subst hg
      refine x_wp_ok ok183 [6] 4 ?_
      refine And.intro (fun c => ?_) (fun c => ?_)
      · refine And.intro ne ?_
        refine And.intro ne ?_
        refine Exists.intro _ (And.intro m_is (And.intro (And.intro (Nat.zero_le _) (Nat.zero_le _)) (fun q h' hpo => ?_)))
        obtain ⟨rfl, rfl⟩ := hpo
        refine And.intro ⟨rfl, ?_⟩ ⟨Or.inr rfl, Nat.le_refl _, Nat.le_refl _⟩
        rw [pk_lDiv (by omega) hG0 (by omega), pk_lDiv (by omega) hG0 (by omega)]
        rfl
      · exact absurd (show lg_cmp (lN 0) (lN 0) = 0 by decide) c
    | succ m ih =>
      intro x y l9 hy hy2 hx hg
      by_cases hy0 : y = 0
      · subst hy0
        exact ih x 0 l9 (Nat.zero_le _) hy2 hx hg
      · have hr := Nat.mod_lt x (show 0 < y by omega)
        refine x_wp_ok ok183 [6] 4 ?_
        refine And.intro (fun c => ?_) (fun c => ?_)
        · have c : lg_cmp (lN y) (lN 0) = 0 := c
          rw [x_lg_eq, pk_lEQ (by omega) (by decide)] at c
          omega
        · refine And.intro (by show ¬ lN y = lN 0; rw [pk_lEQ (by omega) (by decide)]; omega) ?_
          rw [y_gs] at hg
          have e := ih y (x % y) (some (.long (lN (x % y)))) (Nat.le_of_lt_succ (Nat.lt_of_lt_of_le hr hy)) (Nat.lt_trans hr hy2) hy2 hg
          rw [← pk_lRem (by omega) (show 0 < y by omega) (by omega)] at e
          exact e
  exact x_Ct_w (by decide) (Nat.le_of_ble_eq_true rfl) ok183 [6] 4 (loop b a b none (Nat.le_refl _) (by omega) (by omega) hG.symm)
theorem m_areSheets {x y : Int32} : x_V 293 (d + 1) [.int x, .int y] h (.int (x_bo (x_wi x 1 30 && x_wi y 0 x))) h := by
  have e1 : x_wl x.toInt64 1 30 = x_wi x 1 30 := x_wl_wi rfl rfl
  have e2 : x_wl y.toInt64 0 x.toInt64 = x_wi y 0 x := x_wl_wi rfl (Int32.toInt_toInt64 x)
  refine x_Ct_w (by decide) (Nat.le_of_ble_eq_true rfl) ok293 [] 6 ?_
  refine Exists.intro _ (And.intro (m_isFrom (x := x.toInt64) (lo := 1) (hi := 30)) (And.intro (And.intro (Nat.zero_le _) (Nat.zero_le _)) (fun q h' hpo => ?_)))
  obtain ⟨rfl, rfl⟩ := hpo
  rw [e1]
  cases hx : x_wi x 1 30 with
  | false =>
    refine And.intro (fun _ => ?_) (fun c => absurd rfl c)
    exact And.intro ⟨rfl, rfl⟩ ⟨Or.inl rfl, Nat.le_refl _, Nat.le_refl _⟩
  | true =>
    refine And.intro (fun c => absurd c (by decide)) (fun _ => ?_)
    refine Exists.intro _ (And.intro (m_isFrom (x := y.toInt64) (lo := 0) (hi := x.toInt64)) (And.intro (And.intro (Nat.zero_le _) (Nat.zero_le _)) (fun q h' hpo => ?_)))
    obtain ⟨rfl, rfl⟩ := hpo
    rw [e2]
    cases hy : x_wi y 0 x with
    | false =>
      refine And.intro (fun _ => ?_) (fun c => absurd rfl c)
      exact And.intro ⟨rfl, rfl⟩ ⟨Or.inl rfl, Nat.le_refl _, Nat.le_refl _⟩
    | true =>
      refine And.intro (fun c => absurd c (by decide)) (fun _ => ?_)
      exact And.intro ⟨rfl, rfl⟩ ⟨Or.inr rfl, Nat.le_refl _, Nat.le_refl _⟩
theorem x_wi_x {n : Nat} {y : Int32} (hn : n ≤ 30) (h : x_wi y 0 (nI n) = true) : ∃ m, m ≤ n ∧ y = nI m := by
  obtain ⟨m, _, h2, h3⟩ := x_wi_t (lo := 0) (hi := n) h (by omega) (Nat.zero_le _)
  exact ⟨m, h2, h3⟩
theorem c_forged {x y z : Int32} : x_Ct 143 (d + 2) [.ref 0, .int x, .int y, .int z] (f, g, ρ, dm, n) (x_QF 0 0 1 2 f g ρ dm n 1 (sp_forged x y z)) := by
  unfold sp_forged
  refine x_Ct_w (by decide) (Nat.le_of_ble_eq_true rfl) ok143 [] 6 ?_
  refine Exists.intro _ (And.intro (c_within (x := x) (lo := 1) (hi := 30)) (And.intro (And.intro (Nat.zero_le _) (Nat.zero_le _)) (fun q h' hpo => ?_)))
  obtain ⟨rfl, rfl⟩ := hpo
  cases hx : x_wi x 1 30 with
  | false =>
    rw [Bool.false_and, if_neg (by decide)]
    refine And.intro (fun _ => ?_) (fun c => absurd rfl c)
    refine Exists.intro _ (And.intro c_refused (And.intro (And.intro (Nat.zero_le _) (Nat.zero_le _)) (fun q h' hpo => ?_)))
    obtain ⟨rfl, rfl⟩ := hpo
    exact And.intro ⟨rfl, rfl⟩ ⟨Or.inl rfl, Nat.le_refl _, Nat.le_refl _⟩
  | true =>
    refine And.intro (fun c => absurd c (by decide)) (fun _ => ?_)
    refine Exists.intro _ (And.intro (c_within (x := y) (lo := 0) (hi := x)) (And.intro (And.intro (Nat.zero_le _) (Nat.zero_le _)) (fun q h' hpo => ?_)))
    obtain ⟨rfl, rfl⟩ := hpo
    cases hy : x_wi y 0 x with
    | false =>
      rw [Bool.false_and, Bool.and_false, if_neg (by decide)]
      refine And.intro (fun _ => ?_) (fun c => absurd rfl c)
      refine Exists.intro _ (And.intro c_refused (And.intro (And.intro (Nat.zero_le _) (Nat.zero_le _)) (fun q h' hpo => ?_)))
      obtain ⟨rfl, rfl⟩ := hpo
      exact And.intro ⟨rfl, rfl⟩ ⟨Or.inl rfl, Nat.le_refl _, Nat.le_refl _⟩
    | true =>
      refine And.intro (fun c => absurd c (by decide)) (fun _ => ?_)
      refine Exists.intro _ (And.intro (c_within (x := z) (lo := 0) (hi := x)) (And.intro (And.intro (Nat.zero_le _) (Nat.zero_le _)) (fun q h' hpo => ?_)))
      obtain ⟨rfl, rfl⟩ := hpo
      cases hz : x_wi z 0 x with
      | false =>
        rw [Bool.and_false, Bool.and_false, if_neg (by decide)]
        refine And.intro (fun c => absurd rfl c) (fun _ => ?_)
        refine Exists.intro _ (And.intro c_refused (And.intro (And.intro (Nat.zero_le _) (Nat.zero_le _)) (fun q h' hpo => ?_)))
        obtain ⟨rfl, rfl⟩ := hpo
        exact And.intro ⟨rfl, rfl⟩ ⟨Or.inl rfl, Nat.le_refl _, Nat.le_refl _⟩
      | true =>
        refine And.intro (fun _ => ?_) (fun c => absurd c (by decide))
        rw [if_pos (by decide)]
        obtain ⟨a, ha1, ha, rfl⟩ := x_wi_t (lo := 1) (hi := 30) hx (by decide) (by decide)
        obtain ⟨m, hm, rfl⟩ := x_wi_x ha hy
        obtain ⟨k, hk, rfl⟩ := x_wi_x ha hz
        rw [x_c, x_c, x_c, nI_clamp (by omega), nI_clamp (by omega), nI_clamp (by omega)]
        have b1 := y_ch_lt (n := a) (k := k) ha
        have b2 := y_ch_1 (n := a) (k := k) ha hk
        have b3 := y_ch_mono (n := a) (m := m) (k := k) ha (by omega)
        refine Exists.intro _ (And.intro (c_setsOf ha (show k ≤ 30 by omega)) (And.intro (And.intro (Nat.zero_le _) (Nat.zero_le _)) (fun q h' hpo => ?_)))
        obtain ⟨rfl, rfl⟩ := hpo
        have cs := c_setsOf (d := d + 1) (h := (f, g, ρ, dm, n)) (show a - m ≤ 30 by omega) (show k ≤ 30 by omega)
        rw [← pk_sub hm] at cs
        refine Exists.intro _ (And.intro cs (And.intro (And.intro (Nat.zero_le _) (Nat.zero_le _)) (fun q h' hpo => ?_)))
        obtain ⟨rfl, rfl⟩ := hpo
        have tf := c_tell (d := d) (f := f) (g := g) (ρ := ρ) (dm := dm) (n := n) (a := y_ch a k - y_ch (a - m) k) (b := y_ch a k) (by omega) (by omega) (by omega)
        rw [← lN_sub b3] at tf
        refine Exists.intro _ (And.intro tf (And.intro (And.intro (Nat.zero_le _) (Nat.zero_le _)) (fun q h' hpo => ?_)))
        obtain ⟨rfl, rfl⟩ := hpo
        refine Exists.intro _ (And.intro c_agreed (And.intro (And.intro (Nat.zero_le _) (Nat.zero_le _)) (fun q h' hpo => ?_)))
        obtain ⟨rfl, rfl⟩ := hpo
        exact And.intro ⟨rfl, rfl⟩ ⟨Or.inr rfl, Nat.le_refl _, Nat.le_refl _⟩
theorem m_forged {x y z : Int32} : x_Ct 295 (d + 2) [.ref 500, .int x, .int y, .int z] (f, g, ρ, dm, n) (x_QF 500 2 3 4 f g ρ dm n 1 (sp_forged x y z)) := by
  unfold sp_forged
  have e2 : x_wl z.toInt64 0 x.toInt64 = x_wi z 0 x := x_wl_wi rfl (Int32.toInt_toInt64 x)
  refine x_Ct_w (by decide) (Nat.le_of_ble_eq_true rfl) ok295 [] 6 ?_
  refine Exists.intro _ (And.intro m_areSheets (And.intro (And.intro (Nat.zero_le _) (Nat.zero_le _)) (fun q h' hpo => ?_)))
  obtain ⟨rfl, rfl⟩ := hpo
  cases hxy : (x_wi x 1 30 && x_wi y 0 x) with
  | false =>
    rw [← Bool.and_assoc, hxy, Bool.false_and, if_neg (by decide)]
    refine And.intro (fun _ => ?_) (fun c => absurd rfl c)
    refine Exists.intro _ (And.intro m_is (And.intro (And.intro (Nat.zero_le _) (Nat.zero_le _)) (fun q h' hpo => ?_)))
    obtain ⟨rfl, rfl⟩ := hpo
    exact And.intro ⟨rfl, rfl⟩ ⟨Or.inl rfl, Nat.le_refl _, Nat.le_refl _⟩
  | true =>
    refine And.intro (fun c => absurd c (by decide)) (fun _ => ?_)
    refine Exists.intro _ (And.intro (m_isFrom (x := z.toInt64) (lo := 0) (hi := x.toInt64)) (And.intro (And.intro (Nat.zero_le _) (Nat.zero_le _)) (fun q h' hpo => ?_)))
    obtain ⟨rfl, rfl⟩ := hpo
    rw [e2]
    cases hz : x_wi z 0 x with
    | false =>
      rw [Bool.and_false, Bool.and_false, if_neg (by decide)]
      refine And.intro (fun c => absurd rfl c) (fun _ => ?_)
      refine Exists.intro _ (And.intro m_is (And.intro (And.intro (Nat.zero_le _) (Nat.zero_le _)) (fun q h' hpo => ?_)))
      obtain ⟨rfl, rfl⟩ := hpo
      exact And.intro ⟨rfl, rfl⟩ ⟨Or.inl rfl, Nat.le_refl _, Nat.le_refl _⟩
    | true =>
      refine And.intro (fun _ => ?_) (fun c => absurd c (by decide))
      rw [Bool.and_true, hxy, if_pos rfl]
      rw [Bool.and_eq_true] at hxy
      obtain ⟨hx, hy⟩ := hxy
      obtain ⟨a, ha1, ha, rfl⟩ := x_wi_t (lo := 1) (hi := 30) hx (by decide) (by decide)
      obtain ⟨m, hm, rfl⟩ := x_wi_x ha hy
      obtain ⟨k, hk, rfl⟩ := x_wi_x ha hz
      rw [x_c, x_c, x_c, nI_clamp (by omega), nI_clamp (by omega), nI_clamp (by omega)]
      have b1 := y_ch_lt (n := a) (k := k) ha
      have b2 := y_ch_1 (n := a) (k := k) ha hk
      have b3 := y_ch_mono (n := a) (m := m) (k := k) ha (by omega)
      refine Exists.intro _ (And.intro (m_chosen ha (show k ≤ 30 by omega)) (And.intro (And.intro (Nat.zero_le _) (Nat.zero_le _)) (fun q h' hpo => ?_)))
      obtain ⟨rfl, rfl⟩ := hpo
      have cs := m_chosen (d := d + 1) (h := (f, g, ρ, dm, n)) (show a - m ≤ 30 by omega) (show k ≤ 30 by omega)
      rw [← pk_sub hm] at cs
      refine Exists.intro _ (And.intro cs (And.intro (And.intro (Nat.zero_le _) (Nat.zero_le _)) (fun q h' hpo => ?_)))
      obtain ⟨rfl, rfl⟩ := hpo
      refine Exists.intro _ (And.intro (m_chosen ha (show k ≤ 30 by omega)) (And.intro (And.intro (Nat.zero_le _) (Nat.zero_le _)) (fun q h' hpo => ?_)))
      obtain ⟨rfl, rfl⟩ := hpo
      have tf := m_tells (d := d) (f := f) (g := g) (ρ := ρ) (dm := dm) (n := n) (a := y_ch a k - y_ch (a - m) k) (b := y_ch a k) (by omega) (by omega) (by omega)
      rw [← lN_sub b3] at tf
      refine Exists.intro _ (And.intro tf (And.intro (And.intro (Nat.zero_le _) (Nat.zero_le _)) (fun q h' hpo => ?_)))
      obtain ⟨rfl, rfl⟩ := hpo
      exact And.intro ⟨rfl, rfl⟩ ⟨Or.inr rfl, Nat.le_refl _, Nat.le_refl _⟩
theorem c_looks_12 {x y : Int32} (hC : v_C f g 12 v) : x_Ct 144 (d + 1) [.ref 0, .int x, .int y] (f, g, x_HR 12 t, dm, n) (x_PC f g 12 (x_HR 12 t) dm n (sp_looks v x y)) := by
  unfold sp_looks
  refine x_Ct_w (by decide) (Nat.le_of_ble_eq_true rfl) ok144 [27] 6 ?_
  refine Exists.intro _ (And.intro (c_within (x := x) (lo := 1) (hi := 30)) (And.intro (And.intro (Nat.zero_le _) (Nat.zero_le _)) (fun q h' hpo => ?_)))
  obtain ⟨rfl, rfl⟩ := hpo
  cases hx : x_wi x 1 30 with
  | false =>
    refine And.intro (fun _ => ?_) (fun c => absurd rfl c)
    refine Exists.intro _ (And.intro c_refuse (And.intro (And.intro (Nat.zero_le _) (Nat.zero_le _)) (fun q h' hpo => ?_)))
    obtain ⟨rfl, rfl⟩ := hpo
    refine And.intro ?_ ⟨trivial, Nat.le_refl _, Nat.le_refl _⟩
    exact x_PC_0 (by decide) hC
  | true =>
    refine And.intro (fun c => absurd c (by decide)) (fun _ => ?_)
    refine Exists.intro _ (And.intro (c_within (x := y) (lo := 0) (hi := x)) (And.intro (And.intro (Nat.zero_le _) (Nat.zero_le _)) (fun q h' hpo => ?_)))
    obtain ⟨rfl, rfl⟩ := hpo
    cases hy : x_wi y 0 x with
    | false =>
      refine And.intro (fun c => absurd rfl c) (fun _ => ?_)
      refine Exists.intro _ (And.intro c_refuse (And.intro (And.intro (Nat.zero_le _) (Nat.zero_le _)) (fun q h' hpo => ?_)))
      obtain ⟨rfl, rfl⟩ := hpo
      refine And.intro ?_ ⟨trivial, Nat.le_refl _, Nat.le_refl _⟩
      exact x_PC_0 (by decide) hC
    | true =>
      refine And.intro (fun _ => ?_) (fun c => absurd c (by decide))
      obtain ⟨a, ha1, ha, rfl⟩ := x_wi_t (lo := 1) (hi := 30) hx (by decide) (by decide)
      obtain ⟨m, hm, rfl⟩ := x_wi_x ha hy
      rw [x_c, x_c, nI_clamp (by omega), nI_clamp (by omega)]
      have loop : ∀ q k l4, k + q = a + 1 → x_J 144 (d + 1) (x_PC f g 12 (x_HR 12 t) dm n (x_sq 6 true (y_look v a m q k) v)) 27 [some (.ref 0), some (.int (nI a)), some (.int (nI m)), some (.int (nI k)), l4, none] [] (f, g, x_HR 12 t, dm, n) 0 0 := by
        intro q
        induction q with
        | zero =>
          intro k l4 hk
          refine x_wp_ok ok144 [27] 6 ?_
          refine And.intro (fun c => ?_) (fun c => ?_)
          · refine Exists.intro _ (And.intro c_refuse (And.intro (And.intro (Nat.zero_le _) (Nat.zero_le _)) (fun q h' hpo => ?_)))
            obtain ⟨rfl, rfl⟩ := hpo
            refine And.intro ?_ ⟨trivial, Nat.le_refl _, Nat.le_refl _⟩
            exact x_PC_0 (by decide) hC
          · have c : ¬ nI a < nI k := c
            rw [nI_ltI (by omega) (by omega)] at c
            omega
        | succ q ih =>
          intro k l4 hk
          have b1 := y_ch_lt (n := a) (k := k) ha
          have b3 := y_ch_mono (n := a) (m := m) (k := k) ha (by omega)
          refine x_wp_ok ok144 [27] 6 ?_
          refine And.intro (fun c => ?_) (fun c => ?_)
          · have c : nI a < nI k := c
            rw [nI_ltI (by omega) (by omega)] at c
            omega
          · refine Exists.intro _ (And.intro (c_setsOf ha (show k ≤ 30 by omega)) (And.intro (And.intro (Nat.zero_le _) (Nat.zero_le _)) (fun q h' hpo => ?_)))
            obtain ⟨rfl, rfl⟩ := hpo
            have cs := c_setsOf (d := d) (h := (f, g, x_HR 12 t, dm, n)) (show a - m ≤ 30 by omega) (show k ≤ 30 by omega)
            rw [← pk_sub hm] at cs
            refine Exists.intro _ (And.intro cs (And.intro (And.intro (Nat.zero_le _) (Nat.zero_le _)) (fun q h' hpo => ?_)))
            obtain ⟨rfl, rfl⟩ := hpo
            rw [show y_look v a m (q + 1) k = if y_ch a k ≤ 2 * (y_ch a k - y_ch (a - m) k) then some (nI k, v) else y_look v a m q (k + 1) from rfl]
            refine And.intro (fun c2 => ?_) (fun c2 => ?_)
            · have c2 : lg_cmp (lN 2 * (lN (y_ch a k) - lN (y_ch (a - m) k))) (lN (y_ch a k)) < 0 := c2
              rw [x_lg_lt, lN_sub b3, lN_mul, pk_lLT (by omega) (by omega)] at c2
              rw [if_neg (by omega)]
              have e := ih (k + 1) (some (.long (lN (y_ch a k)))) (by omega)
              rw [nI_succ k] at e
              exact e
            · have c2 : ¬ lg_cmp (lN 2 * (lN (y_ch a k) - lN (y_ch (a - m) k))) (lN (y_ch a k)) < 0 := c2
              rw [x_lg_lt, lN_sub b3, lN_mul, pk_lLT (by omega) (by omega)] at c2
              rw [if_pos (by omega)]
              refine Exists.intro _ (And.intro c_answer (And.intro (And.intro (Nat.zero_le _) (Nat.zero_le _)) (fun q h' hpo => ?_)))
              obtain ⟨rfl, rfl⟩ := hpo
              refine And.intro ?_ ⟨trivial, Nat.le_refl _, Nat.le_refl _⟩
              exact x_PC_0 (by decide) hC
      exact loop (a + 1) 0 none (Nat.zero_add _)
theorem c_looks_22 {x y : Int32} (hC : v_C f g 22 v) : x_Ct 144 (d + 1) [.ref 0, .int x, .int y] (f, g, x_HR 22 t, dm, n) (x_PC f g 22 (x_HR 22 t) dm n (sp_looks v x y)) := by
  unfold sp_looks
  refine x_Ct_w (by decide) (Nat.le_of_ble_eq_true rfl) ok144 [27] 6 ?_
  refine Exists.intro _ (And.intro (c_within (x := x) (lo := 1) (hi := 30)) (And.intro (And.intro (Nat.zero_le _) (Nat.zero_le _)) (fun q h' hpo => ?_)))
  obtain ⟨rfl, rfl⟩ := hpo
  cases hx : x_wi x 1 30 with
  | false =>
    refine And.intro (fun _ => ?_) (fun c => absurd rfl c)
    refine Exists.intro _ (And.intro c_refuse (And.intro (And.intro (Nat.zero_le _) (Nat.zero_le _)) (fun q h' hpo => ?_)))
    obtain ⟨rfl, rfl⟩ := hpo
    refine And.intro ?_ ⟨trivial, Nat.le_refl _, Nat.le_refl _⟩
    exact x_PC_0 (by decide) hC
  | true =>
    refine And.intro (fun c => absurd c (by decide)) (fun _ => ?_)
    refine Exists.intro _ (And.intro (c_within (x := y) (lo := 0) (hi := x)) (And.intro (And.intro (Nat.zero_le _) (Nat.zero_le _)) (fun q h' hpo => ?_)))
    obtain ⟨rfl, rfl⟩ := hpo
    cases hy : x_wi y 0 x with
    | false =>
      refine And.intro (fun c => absurd rfl c) (fun _ => ?_)
      refine Exists.intro _ (And.intro c_refuse (And.intro (And.intro (Nat.zero_le _) (Nat.zero_le _)) (fun q h' hpo => ?_)))
      obtain ⟨rfl, rfl⟩ := hpo
      refine And.intro ?_ ⟨trivial, Nat.le_refl _, Nat.le_refl _⟩
      exact x_PC_0 (by decide) hC
    | true =>
      refine And.intro (fun _ => ?_) (fun c => absurd c (by decide))
      obtain ⟨a, ha1, ha, rfl⟩ := x_wi_t (lo := 1) (hi := 30) hx (by decide) (by decide)
      obtain ⟨m, hm, rfl⟩ := x_wi_x ha hy
      rw [x_c, x_c, nI_clamp (by omega), nI_clamp (by omega)]
      have loop : ∀ q k l4, k + q = a + 1 → x_J 144 (d + 1) (x_PC f g 22 (x_HR 22 t) dm n (x_sq 6 true (y_look v a m q k) v)) 27 [some (.ref 0), some (.int (nI a)), some (.int (nI m)), some (.int (nI k)), l4, none] [] (f, g, x_HR 22 t, dm, n) 0 0 := by
        intro q
        induction q with
        | zero =>
          intro k l4 hk
          refine x_wp_ok ok144 [27] 6 ?_
          refine And.intro (fun c => ?_) (fun c => ?_)
          · refine Exists.intro _ (And.intro c_refuse (And.intro (And.intro (Nat.zero_le _) (Nat.zero_le _)) (fun q h' hpo => ?_)))
            obtain ⟨rfl, rfl⟩ := hpo
            refine And.intro ?_ ⟨trivial, Nat.le_refl _, Nat.le_refl _⟩
            exact x_PC_0 (by decide) hC
          · have c : ¬ nI a < nI k := c
            rw [nI_ltI (by omega) (by omega)] at c
            omega
        | succ q ih =>
          intro k l4 hk
          have b1 := y_ch_lt (n := a) (k := k) ha
          have b3 := y_ch_mono (n := a) (m := m) (k := k) ha (by omega)
          refine x_wp_ok ok144 [27] 6 ?_
          refine And.intro (fun c => ?_) (fun c => ?_)
          · have c : nI a < nI k := c
            rw [nI_ltI (by omega) (by omega)] at c
            omega
          · refine Exists.intro _ (And.intro (c_setsOf ha (show k ≤ 30 by omega)) (And.intro (And.intro (Nat.zero_le _) (Nat.zero_le _)) (fun q h' hpo => ?_)))
            obtain ⟨rfl, rfl⟩ := hpo
            have cs := c_setsOf (d := d) (h := (f, g, x_HR 22 t, dm, n)) (show a - m ≤ 30 by omega) (show k ≤ 30 by omega)
            rw [← pk_sub hm] at cs
            refine Exists.intro _ (And.intro cs (And.intro (And.intro (Nat.zero_le _) (Nat.zero_le _)) (fun q h' hpo => ?_)))
            obtain ⟨rfl, rfl⟩ := hpo
            rw [show y_look v a m (q + 1) k = if y_ch a k ≤ 2 * (y_ch a k - y_ch (a - m) k) then some (nI k, v) else y_look v a m q (k + 1) from rfl]
            refine And.intro (fun c2 => ?_) (fun c2 => ?_)
            · have c2 : lg_cmp (lN 2 * (lN (y_ch a k) - lN (y_ch (a - m) k))) (lN (y_ch a k)) < 0 := c2
              rw [x_lg_lt, lN_sub b3, lN_mul, pk_lLT (by omega) (by omega)] at c2
              rw [if_neg (by omega)]
              have e := ih (k + 1) (some (.long (lN (y_ch a k)))) (by omega)
              rw [nI_succ k] at e
              exact e
            · have c2 : ¬ lg_cmp (lN 2 * (lN (y_ch a k) - lN (y_ch (a - m) k))) (lN (y_ch a k)) < 0 := c2
              rw [x_lg_lt, lN_sub b3, lN_mul, pk_lLT (by omega) (by omega)] at c2
              rw [if_pos (by omega)]
              refine Exists.intro _ (And.intro c_answer (And.intro (And.intro (Nat.zero_le _) (Nat.zero_le _)) (fun q h' hpo => ?_)))
              obtain ⟨rfl, rfl⟩ := hpo
              refine And.intro ?_ ⟨trivial, Nat.le_refl _, Nat.le_refl _⟩
              exact x_PC_0 (by decide) hC
      exact loop (a + 1) 0 none (Nat.zero_add _)
theorem m_looks {x y : Int32} (hM : v_M (f 501) 0 v) : x_Ct 296 (d + 2) [.ref 500, .int x, .int y] (f, g, x_HR r t, dm, n) (x_PM f g (x_HR r t) dm n (sp_looks v x y)) := by
  unfold sp_looks
  refine x_Ct_w (by decide) (Nat.le_of_ble_eq_true rfl) ok296 [16] 6 ?_
  refine Exists.intro _ (And.intro m_areSheets (And.intro (And.intro (Nat.zero_le _) (Nat.zero_le _)) (fun q h' hpo => ?_)))
  obtain ⟨rfl, rfl⟩ := hpo
  cases hxy : (x_wi x 1 30 && x_wi y 0 x) with
  | false =>
    refine And.intro (fun c => absurd rfl c) (fun _ => ?_)
    refine Exists.intro _ (And.intro m_refuse (And.intro (And.intro (Nat.zero_le _) (Nat.zero_le _)) (fun q h' hpo => ?_)))
    obtain ⟨rfl, rfl⟩ := hpo
    refine And.intro ?_ ⟨trivial, Nat.le_refl _, Nat.le_refl _⟩
    exact x_PM_0 hM
  | true =>
    refine And.intro (fun _ => ?_) (fun c => absurd c (by decide))
    rw [Bool.and_eq_true] at hxy
    obtain ⟨hx, hy⟩ := hxy
    obtain ⟨a, ha1, ha, rfl⟩ := x_wi_t (lo := 1) (hi := 30) hx (by decide) (by decide)
    obtain ⟨m, hm, rfl⟩ := x_wi_x ha hy
    rw [x_c, x_c, nI_clamp (by omega), nI_clamp (by omega)]
    have loop : ∀ q k l4, k + q = a + 1 → x_J 296 (d + 2) (x_PM f g (x_HR r t) dm n (x_sq 6 true (y_look v a m q k) v)) 16 [some (.ref 500), some (.int (nI a)), some (.int (nI m)), some (.int (nI k)), l4, none] [] (f, g, x_HR r t, dm, n) 0 0 := by
      intro q
      induction q with
      | zero =>
        intro k l4 hk
        refine x_wp_ok ok296 [16] 6 ?_
        refine And.intro (fun c => ?_) (fun c => ?_)
        · refine Exists.intro _ (And.intro m_refuse (And.intro (And.intro (Nat.zero_le _) (Nat.zero_le _)) (fun q h' hpo => ?_)))
          obtain ⟨rfl, rfl⟩ := hpo
          refine And.intro ?_ ⟨trivial, Nat.le_refl _, Nat.le_refl _⟩
          exact x_PM_0 hM
        · have c : ¬ nI a < nI k := c
          rw [nI_ltI (by omega) (by omega)] at c
          omega
      | succ q ih =>
        intro k l4 hk
        have b1 := y_ch_lt (n := a) (k := k) ha
        have b3 := y_ch_mono (n := a) (m := m) (k := k) ha (by omega)
        refine x_wp_ok ok296 [16] 6 ?_
        refine And.intro (fun c => ?_) (fun c => ?_)
        · have c : nI a < nI k := c
          rw [nI_ltI (by omega) (by omega)] at c
          omega
        · refine Exists.intro _ (And.intro (m_chosen ha (show k ≤ 30 by omega)) (And.intro (And.intro (Nat.zero_le _) (Nat.zero_le _)) (fun q h' hpo => ?_)))
          obtain ⟨rfl, rfl⟩ := hpo
          have cs := m_chosen (d := d + 1) (h := (f, g, x_HR r t, dm, n)) (show a - m ≤ 30 by omega) (show k ≤ 30 by omega)
          rw [← pk_sub hm] at cs
          refine Exists.intro _ (And.intro cs (And.intro (And.intro (Nat.zero_le _) (Nat.zero_le _)) (fun q h' hpo => ?_)))
          obtain ⟨rfl, rfl⟩ := hpo
          rw [show y_look v a m (q + 1) k = if y_ch a k ≤ 2 * (y_ch a k - y_ch (a - m) k) then some (nI k, v) else y_look v a m q (k + 1) from rfl]
          refine And.intro (fun c2 => ?_) (fun c2 => ?_)
          · have c2 : lg_cmp (lN 2 * (lN (y_ch a k) - lN (y_ch (a - m) k))) (lN (y_ch a k)) < 0 := c2
            rw [x_lg_lt, lN_sub b3, lN_mul, pk_lLT (by omega) (by omega)] at c2
            rw [if_neg (by omega)]
            have e := ih (k + 1) (some (.long (lN (y_ch a k)))) (by omega)
            rw [nI_succ k] at e
            exact e
          · have c2 : ¬ lg_cmp (lN 2 * (lN (y_ch a k) - lN (y_ch (a - m) k))) (lN (y_ch a k)) < 0 := c2
            rw [x_lg_lt, lN_sub b3, lN_mul, pk_lLT (by omega) (by omega)] at c2
            rw [if_pos (by omega)]
            refine Exists.intro _ (And.intro m_gives (And.intro (And.intro (Nat.zero_le _) (Nat.zero_le _)) (fun q h' hpo => ?_)))
            obtain ⟨rfl, rfl⟩ := hpo
            refine And.intro ?_ ⟨trivial, Nat.le_refl _, Nat.le_refl _⟩
            exact x_PM_0 hM
    exact loop (a + 1) 0 none (Nat.zero_add _)
/-! what is told of itself -/
theorem c_status : x_V 97 d [.ref 0] (f, g, ρ, dm, n) (.int (f 0 0)) (f, g, ρ, dm, n) := by
  refine x_Ct_w (by decide) (Nat.le_of_ble_eq_true rfl) ok97 [] 2 ?_
  exact And.intro ⟨rfl, rfl⟩ ⟨trivial, Nat.le_refl _, Nat.le_refl _⟩
theorem c_top : x_V 98 d [.ref 0] (f, g, ρ, dm, n) (.long (g 0 1)) (f, g, ρ, dm, n) := by
  refine x_Ct_w (by decide) (Nat.le_of_ble_eq_true rfl) ok98 [] 2 ?_
  exact And.intro ⟨rfl, rfl⟩ ⟨trivial, Nat.le_refl _, Nat.le_refl _⟩
theorem c_bottom : x_V 99 d [.ref 0] (f, g, ρ, dm, n) (.long (g 0 2)) (f, g, ρ, dm, n) := by
  refine x_Ct_w (by decide) (Nat.le_of_ble_eq_true rfl) ok99 [] 2 ?_
  exact And.intro ⟨rfl, rfl⟩ ⟨trivial, Nat.le_refl _, Nat.le_refl _⟩
theorem m_status : x_V 176 d [.ref 500] (f, g, ρ, dm, n) (.int (f 500 2)) (f, g, ρ, dm, n) := by
  refine x_Ct_w (by decide) (Nat.le_of_ble_eq_true rfl) ok176 [] 2 ?_
  exact And.intro ⟨rfl, rfl⟩ ⟨trivial, Nat.le_refl _, Nat.le_refl _⟩
theorem m_top : x_V 177 d [.ref 500] (f, g, ρ, dm, n) (.long (g 500 3)) (f, g, ρ, dm, n) := by
  refine x_Ct_w (by decide) (Nat.le_of_ble_eq_true rfl) ok177 [] 2 ?_
  exact And.intro ⟨rfl, rfl⟩ ⟨trivial, Nat.le_refl _, Nat.le_refl _⟩
theorem m_bottom : x_V 178 d [.ref 500] (f, g, ρ, dm, n) (.long (g 500 4)) (f, g, ρ, dm, n) := by
  refine x_Ct_w (by decide) (Nat.le_of_ble_eq_true rfl) ok178 [] 2 ?_
  exact And.intro ⟨rfl, rfl⟩ ⟨trivial, Nat.le_refl _, Nat.le_refl _⟩
theorem c_fault {x : Int32} : x_V 107 d [.ref 0, .int x] (f, g, ρ, dm, n) (.int (if x = 0 then f 0 6 else if x = 1 then f 0 7 else -1)) (f, g, ρ, dm, n) := by
  refine x_Ct_w (by decide) (Nat.le_of_ble_eq_true rfl) ok107 [] 5 ?_
  refine And.intro (fun c => ?_) (fun c => ?_)
  · have c : ¬ x = 0 := c
    refine And.intro (fun c2 => ?_) (fun c2 => ?_)
    · have c2 : ¬ x = 1 := c2
      exact And.intro ⟨(by rw [if_neg c, if_neg c2]; rfl), rfl⟩ ⟨trivial, Nat.le_refl _, Nat.le_refl _⟩
    · have c2 : x = 1 := c2
      exact And.intro ⟨(by rw [if_neg c, if_pos c2]), rfl⟩ ⟨trivial, Nat.le_refl _, Nat.le_refl _⟩
  · have c : x = 0 := c
    exact And.intro ⟨(by rw [if_pos c]), rfl⟩ ⟨trivial, Nat.le_refl _, Nat.le_refl _⟩
theorem m_fault {x : Int32} : x_V 208 d [.ref 500, .int x] (f, g, ρ, dm, n) (.int (if x = 0 then f 500 16 else if x = 1 then f 500 17 else -1)) (f, g, ρ, dm, n) := by
  refine x_Ct_w (by decide) (Nat.le_of_ble_eq_true rfl) ok208 [] 5 ?_
  refine And.intro (fun c => ?_) (fun c => ?_)
  · have c : ¬ x = 0 := c
    refine And.intro (fun c2 => ?_) (fun c2 => ?_)
    · have c2 : ¬ x = 1 := c2
      exact And.intro ⟨(by rw [if_neg c, if_neg c2]; rfl), rfl⟩ ⟨trivial, Nat.le_refl _, Nat.le_refl _⟩
    · have c2 : x = 1 := c2
      exact And.intro ⟨(by rw [if_neg c, if_pos c2]), rfl⟩ ⟨trivial, Nat.le_refl _, Nat.le_refl _⟩
  · have c : x = 0 := c
    exact And.intro ⟨(by rw [if_pos c]), rfl⟩ ⟨trivial, Nat.le_refl _, Nat.le_refl _⟩
end C45
