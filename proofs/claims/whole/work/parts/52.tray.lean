/-! TRAYS: which are there (sort, how many), and their numbers -/
abbrev xT : Type := (Nat → Option (Nat × Nat)) × (Nat → Nat → Int64)
abbrev xU : Type := Value × Int32 × xT
def x_t1 (len srt : Int32) (num : Nat → Int64) (o : Option (Nat × Nat)) (u : Nat → Int64) : Prop := match o with
  | none => len = -1
  | some c => len = nI c.2 ∧ srt = nI c.1 ∧ c.1 ≤ 3 ∧ c.2 ≤ 60 ∧ ∀ j, j < c.2 → num j = u j
def x_TC (f : Nat → Nat → Int32) (g : Nat → Nat → Int64) (T : xT) : Prop := ∀ i, i < 4 → x_t1 (f (2 + 2 * i) 1) (f (2 + 2 * i) 2) (g (3 + 2 * i)) (T.1 i) (T.2 i)
def x_TM (f : Nat → Nat → Int32) (g : Nat → Nat → Int64) (T : xT) : Prop := ∀ i, i < 4 → x_t1 (f 504 i) (f 503 i) (fun j => g 505 (60 * i + j)) (T.1 i) (T.2 i)
def y_cut (s : Int32) (w : Int64) : Int64 := if s = 0 then w.toInt32.toInt8.toInt32.toInt64 else if s = 1 then w.toInt32.toInt16.toInt32.toInt64 else if s = 2 then w.toInt32.toInt64 else w
def u_set (T : xT) (i : Nat) (c : Option (Nat × Nat)) (u : Nat → Int64) : xT := (va_up T.1 i c, va_up T.2 i u)
def y_wp (T : xT) (x y : Int32) : Int32 := if x_wi x 0 3 = true then (match T.1 (x_c x) with
  | none => 2
  | some c => if x_ixb y c.2 = true then 0 else 3) else 1
def y_so (T : xT) (i : Nat) : Nat := match T.1 i with
  | none => 0
  | some c => c.1
def y_ln (T : xT) (i : Nat) : Nat := match T.1 i with
  | none => 0
  | some c => c.2
def st_tray (T : xT) (x y z : Int32) : xU := if (x_wi x 0 3 && (x_wi y 0 3 && x_wi z 0 60)) = true then (.int 1, 0, u_set T (x_c x) (some (x_c y, x_c z)) (fun _ => 0)) else (.int 0, 1, T)
def st_write (T : xT) (x y : Int32) (w : Int64) : xU := if y_wp T x y = 0 then (.int 1, 0, u_set T (x_c x) (T.1 (x_c x)) (va_up (T.2 (x_c x)) (x_c y) (y_cut (nI (y_so T (x_c x))) w))) else (.int 0, y_wp T x y, T)
def st_read (T : xT) (x y : Int32) : xU := if y_wp T x y = 0 then (.long (T.2 (x_c x) (x_c y)), 0, T) else (.long (-1), y_wp T x y, T)
/-- what a call on the TRAYS leaves in the class -/
def x_QT (f : Nat → Nat → Int32) (g : Nat → Nat → Int64) (ρ : Nat → Nat → Option Nat) (dm : List Nat) (n : Nat) (S : xU) : Option Value → xH → Prop := fun q h' => ∃ F G, h' = (F, G, ρ, dm, n) ∧ q = some S.1 ∧ x_TC F G S.2.2 ∧ F 0 0 = S.2.1 ∧ (∀ j, j ≠ 0 → F 0 j = f 0 j) ∧ (∀ k, k ≠ 0 → k < 2 ∨ 9 < k → F k = f k) ∧ ∀ k, k < 2 ∨ 9 < k → G k = g k
def x_QN (f : Nat → Nat → Int32) (g : Nat → Nat → Int64) (ρ : Nat → Nat → Option Nat) (dm : List Nat) (n : Nat) (S : xU) : Option Value → xH → Prop := fun q h' => ∃ F G, h' = (F, G, ρ, dm, n) ∧ q = some S.1 ∧ x_TM F G S.2.2 ∧ F 500 2 = S.2.1 ∧ (∀ j, j ≠ 2 → F 500 j = f 500 j) ∧ (∀ k, k ≠ 500 → k ≠ 503 → k ≠ 504 → F k = f k) ∧ ∀ k, k ≠ 505 → G k = g k
theorem x_wi_3 {x : Int32} (h : x_wi x 0 3 = true) : x = nI 0 ∨ x = nI 1 ∨ x = nI 2 ∨ x = nI 3 := by
  obtain ⟨j, h1, h2, rfl⟩ := x_wi_t (lo := 0) (hi := 3) h (by decide) (by decide)
  obtain rfl | rfl | rfl | rfl : j = 0 ∨ j = 1 ∨ j = 2 ∨ j = 3 := by omega
  · exact Or.inl rfl
  · exact Or.inr (Or.inl rfl)
  · exact Or.inr (Or.inr (Or.inl rfl))
  · exact Or.inr (Or.inr (Or.inr rfl))
section C52
variable {f : Nat → Nat → Int32} {g : Nat → Nat → Int64} {r t : Nat} {ρ : Nat → Nat → Option Nat} {dm : List Nat} {n d N : Nat} {v : xV} {h : xH} {T : xT}
theorem x_QT_0 (hT : x_TC f g T) {w : Value} {s : Int32} : x_QT f g ρ dm n (w, s, T) (some w) (x_up f 0 0 s, g, ρ, dm, n) := by
  refine ⟨_, _, rfl, rfl, fun i hi => ?_, x_up_s _ _ _ _, fun j hj => x_up_j hj, fun k h0 _ => x_up_k h0, fun _ _ => rfl⟩
  rw [x_up_k (by omega)]
  exact hT i hi
theorem x_QT_S {F : Nat → Nat → Int32} {G : Nat → Nat → Int64} {T' : xT} (hT : x_TC F G T') (h1 : ∀ k, k < 2 ∨ 9 < k → F k = f k) (h2 : ∀ k, k < 2 ∨ 9 < k → G k = g k) {w : Value} {s : Int32} : x_QT f g ρ dm n (w, s, T') (some w) (x_up F 0 0 s, G, ρ, dm, n) := by
  refine ⟨_, _, rfl, rfl, fun i hi => ?_, x_up_s _ _ _ _, fun j hj => ?_, fun k h0 hk => ?_, h2⟩
  · rw [x_up_k (by omega)]
    exact hT i hi
  · rw [x_up_j hj, h1 0 (by omega)]
  · rw [x_up_k h0, h1 k hk]
/-- one TRAY is new -/
theorem x_TC_set (hT : x_TC f g T) {F : Nat → Nat → Int32} {G : Nat → Nat → Int64} {i : Nat} {c : Option (Nat × Nat)} {u : Nat → Int64} (h1 : ∀ k, k ≠ 2 + 2 * i → F k = f k) (h2 : ∀ k, k ≠ 3 + 2 * i → G k = g k) (h3 : x_t1 (F (2 + 2 * i) 1) (F (2 + 2 * i) 2) (G (3 + 2 * i)) c u) : x_TC F G (u_set T i c u) := by
  intro j hj
  show x_t1 _ _ _ (va_up T.1 i c j) (va_up T.2 i u j)
  by_cases e : j = i
  · subst e
    rw [x_us, x_us]
    exact h3
  · rw [x_un e, x_un e, h1 _ (by omega), h2 _ (by omega)]
    exact hT j hj
theorem c_isMissing_0 : x_V 93 d [.ref 2] (f, g, ρ, dm, n) (.int (x_bo (decide (f 2 1 = -1)))) (f, g, ρ, dm, n) := by
  refine x_Ct_w (by decide) (Nat.le_of_ble_eq_true rfl) ok93 [] 4 ?_
  refine And.intro (fun c => ?_) (fun c => ?_)
  · have c : ¬ f 2 1 = -1 := c
    exact And.intro ⟨(by rw [decide_eq_false c]; rfl), rfl⟩ ⟨Or.inl rfl, Nat.le_refl _, Nat.le_refl _⟩
  · have c : f 2 1 = -1 := c
    exact And.intro ⟨(by rw [decide_eq_true c]; rfl), rfl⟩ ⟨Or.inr rfl, Nat.le_refl _, Nat.le_refl _⟩
theorem c_begin_0 {s m : Int32} : x_Ct 94 d [.ref 2, .int s, .int m] (f, g, x_HR r t, dm, n) (fun q h' => q = none ∧ ∃ G, h' = (x_up (x_up f 2 2 s) 2 1 m, G, x_HR r t, dm, n) ∧ (∀ k, k ≠ 3 → G k = g k) ∧ ∀ j, j < 60 → G 3 j = 0) := by
  have loop : ∀ p i G, i + p = 60 → (∀ k, k ≠ 3 → G k = g k) → (∀ j, j < i → G 3 j = 0) → x_J 94 d (fun q h' => q = none ∧ ∃ G, h' = (x_up (x_up f 2 2 s) 2 1 m, G, x_HR r t, dm, n) ∧ (∀ k, k ≠ 3 → G k = g k) ∧ ∀ j, j < 60 → G 3 j = 0) 12 [some (.ref 2), some (.int s), some (.int m), some (.int (nI i))] [] (x_up (x_up f 2 2 s) 2 1 m, G, x_HR r t, dm, n) 0 0 := by
    intro p
    induction p with
    | zero =>
      intro i G hi h1 h2
      obtain rfl : i = 60 := by omega
      refine x_wp_ok ok94 [12] 4 ?_
      refine And.intro (fun c => ?_) (fun c => ?_)
      · exact And.intro ⟨rfl, G, rfl, h1, h2⟩ ⟨trivial, Nat.le_refl _, Nat.le_refl _⟩
      · exact absurd (show nI 60 ≤ nI 60 by decide) c
    | succ p ih =>
      intro i G hi h1 h2
      refine x_wp_ok ok94 [12] 4 ?_
      refine And.intro (fun c => ?_) (fun c => ?_)
      · have c : nI 60 ≤ nI i := c
        rw [nI_leI (by decide) (by omega)] at c
        omega
      · refine And.intro (x_ix_nI (by omega) (by omega)) ?_
        rw [nI_clamp (by omega)]
        have e := ih (i + 1) (x_up G 3 i 0) (by omega) (fun k hk => by rw [x_up_k hk]; exact h1 k hk) (fun j hj => by
          by_cases e : j = i
          · subst e
            rw [x_up_s]
          · rw [x_up_j e]
            exact h2 j (by omega))
        rw [nI_succ i] at e
        exact e
  exact x_Ct_w (by decide) (Nat.le_of_ble_eq_true rfl) ok94 [12] 4 (loop 60 0 g (Nat.zero_add _) (fun _ _ => rfl) (fun j hj => by omega))
theorem c_put_0 {j : Nat} {w : Int64} (hj : j < 60) : x_Ct 95 d [.ref 2, .int (nI j), .long w] (f, g, x_HR r t, dm, n) (fun q h' => q = none ∧ h' = (f, x_up g 3 j (y_cut (f 2 2) w), x_HR r t, dm, n)) := by
  refine x_Ct_w (by decide) (Nat.le_of_ble_eq_true rfl) ok95 [] 10 ?_
  refine And.intro (fun c => ?_) (fun _ => ?_)
  · have c : nI j < nI 0 := c
    rw [nI_ltI (by omega) (by decide)] at c
    omega
  · refine And.intro (fun _ => ?_) (fun c => ?_)
    · refine And.intro (fun c0 => ?_) (fun c0 => ?_)
      · have c0 : ¬ f 2 2 = 0 := c0
        refine And.intro (fun c1 => ?_) (fun c1 => ?_)
        · have c1 : ¬ f 2 2 = 1 := c1
          refine And.intro (fun c2 => ?_) (fun c2 => ?_)
          · have c2 : ¬ f 2 2 = 2 := c2
            refine And.intro (x_ix_nI (by omega) (by omega)) ?_
            rw [nI_clamp (by omega)]
            exact And.intro ⟨rfl, by unfold y_cut; rw [if_neg c0, if_neg c1, if_neg c2]⟩ ⟨trivial, Nat.le_refl _, Nat.le_refl _⟩
          · have c2 : f 2 2 = 2 := c2
            refine And.intro (x_ix_nI (by omega) (by omega)) ?_
            rw [nI_clamp (by omega)]
            exact And.intro ⟨rfl, by unfold y_cut; rw [if_neg c0, if_neg c1, if_pos c2]⟩ ⟨trivial, Nat.le_refl _, Nat.le_refl _⟩
        · have c1 : f 2 2 = 1 := c1
          refine And.intro (x_ix_nI (by omega) (by omega)) ?_
          rw [nI_clamp (by omega)]
          exact And.intro ⟨rfl, by unfold y_cut; rw [if_neg c0, if_pos c1]⟩ ⟨trivial, Nat.le_refl _, Nat.le_refl _⟩
      · have c0 : f 2 2 = 0 := c0
        refine And.intro (x_ix_nI (by omega) (by omega)) ?_
        rw [nI_clamp (by omega)]
        exact And.intro ⟨rfl, by unfold y_cut; rw [if_pos c0]⟩ ⟨trivial, Nat.le_refl _, Nat.le_refl _⟩
    · have c : ¬ nI j < nI 60 := c
      rw [nI_ltI (by omega) (by decide)] at c
      omega
theorem c_wrongPlace_0 {y : Int32} (hT : x_TC f g T) : x_V 166 (d + 2) [.ref 0, .int (nI 0), .int y] (f, g, x_HR r t, dm, n) (.int (y_wp T (nI 0) y)) (f, g, x_HR r t, dm, n) := by
  have h1 := hT 0 (by decide)
  unfold y_wp
  rw [if_pos (by decide), show x_c (nI 0) = 0 from rfl]
  refine x_Ct_w (by decide) (Nat.le_of_ble_eq_true rfl) ok166 [] 8 ?_
  refine Exists.intro _ (And.intro c_isTray (And.intro (And.intro (Nat.zero_le _) (Nat.zero_le _)) (fun q h' hpo => ?_)))
  obtain ⟨rfl, rfl⟩ := hpo
  refine And.intro (fun _ => ?_) (fun c => absurd c (by decide))
  refine And.intro (x_ix_nI (by omega) (by omega)) ?_
  rw [nI_clamp (by omega)]
  refine Exists.intro _ (And.intro c_isMissing_0 (And.intro (And.intro (Nat.zero_le _) (Nat.zero_le _)) (fun q h' hpo => ?_)))
  obtain ⟨rfl, rfl⟩ := hpo
  cases ho : T.1 0 with
  | none =>
    rw [ho] at h1
    have h1 : f 2 1 = -1 := h1
    rw [decide_eq_true h1]
    refine And.intro (fun c => absurd c (by decide)) (fun _ => ?_)
    exact And.intro ⟨rfl, rfl⟩ ⟨trivial, Nat.le_refl _, Nat.le_refl _⟩
  | some c =>
    rw [ho] at h1
    obtain ⟨a1, a2, a3, a4, a5⟩ := h1
    have a1 : f 2 1 = nI c.2 := a1
    rw [decide_eq_false (by rw [a1]; exact x_nIm (by omega))]
    refine And.intro (fun _ => ?_) (fun c => absurd rfl c)
    dsimp only
    refine And.intro (fun c1 => ?_) (fun c1 => ?_)
    · have c1 : y < 0 := c1
      rw [x_lt, x_i0] at c1
      exact And.intro ⟨(by rw [if_neg (by simp only [x_ixb, Bool.and_eq_true, decide_eq_true_eq]; omega)]; rfl), rfl⟩ ⟨trivial, Nat.le_refl _, Nat.le_refl _⟩
    · have c1 : ¬ y < 0 := c1
      rw [x_lt, x_i0] at c1
      refine And.intro (x_ix_nI (by omega) (by omega)) ?_
      rw [nI_clamp (by omega)]
      refine And.intro (fun c2 => ?_) (fun c2 => ?_)
      · have c2 : y < f 2 1 := c2
        rw [a1, x_lt, nI_toInt (by omega)] at c2
        exact And.intro ⟨(by rw [if_pos (by simp only [x_ixb, Bool.and_eq_true, decide_eq_true_eq]; omega)]; rfl), rfl⟩ ⟨trivial, Nat.le_refl _, Nat.le_refl _⟩
      · have c2 : ¬ y < f 2 1 := c2
        rw [a1, x_lt, nI_toInt (by omega)] at c2
        exact And.intro ⟨(by rw [if_neg (by simp only [x_ixb, Bool.and_eq_true, decide_eq_true_eq]; omega)]; rfl), rfl⟩ ⟨trivial, Nat.le_refl _, Nat.le_refl _⟩
theorem c_wrongForKinds_0_12 {K : Nat} (hT : x_TC f g T) (hK : f 12 0 = nI K) (hK4 : K ≤ 4) : x_V 167 (d + 2) [.ref 0, .int (nI 0)] (f, g, x_HR 12 t, dm, n) (.int (match T.1 0 with | none => 2 | some c => if c.2 < K then 3 else 0)) (f, g, x_HR 12 t, dm, n) := by
  have h1 := hT 0 (by decide)
  refine x_Ct_w (by decide) (Nat.le_of_ble_eq_true rfl) ok167 [] 8 ?_
  refine Exists.intro _ (And.intro c_isTray (And.intro (And.intro (Nat.zero_le _) (Nat.zero_le _)) (fun q h' hpo => ?_)))
  obtain ⟨rfl, rfl⟩ := hpo
  refine And.intro (fun _ => ?_) (fun c => absurd c (by decide))
  refine And.intro (x_ix_nI (by omega) (by omega)) ?_
  rw [nI_clamp (by omega)]
  refine Exists.intro _ (And.intro c_isMissing_0 (And.intro (And.intro (Nat.zero_le _) (Nat.zero_le _)) (fun q h' hpo => ?_)))
  obtain ⟨rfl, rfl⟩ := hpo
  cases ho : T.1 0 with
  | none =>
    rw [ho] at h1
    have h1 : f 2 1 = -1 := h1
    rw [decide_eq_true h1]
    refine And.intro (fun c => absurd c (by decide)) (fun _ => ?_)
    exact And.intro ⟨rfl, rfl⟩ ⟨trivial, Nat.le_refl _, Nat.le_refl _⟩
  | some c =>
    rw [ho] at h1
    obtain ⟨a1, a2, a3, a4, a5⟩ := h1
    have a1 : f 2 1 = nI c.2 := a1
    rw [decide_eq_false (by rw [a1]; exact x_nIm (by omega))]
    refine And.intro (fun _ => ?_) (fun c => absurd rfl c)
    dsimp only
    refine And.intro (x_ix_nI (by omega) (by omega)) ?_
    rw [nI_clamp (by omega)]
    refine And.intro (fun c1 => ?_) (fun c1 => ?_)
    · have c1 : f 12 0 ≤ f 2 1 := c1
      rw [a1, hK, nI_leI (by omega) (by omega)] at c1
      exact And.intro ⟨(by rw [if_neg (by omega)]; rfl), rfl⟩ ⟨trivial, Nat.le_refl _, Nat.le_refl _⟩
    · have c1 : ¬ f 12 0 ≤ f 2 1 := c1
      rw [a1, hK, nI_leI (by omega) (by omega)] at c1
      exact And.intro ⟨(by rw [if_pos (by omega)]; rfl), rfl⟩ ⟨trivial, Nat.le_refl _, Nat.le_refl _⟩
theorem c_wrongForKinds_0_22 {K : Nat} (hT : x_TC f g T) (hK : f 22 0 = nI K) (hK4 : K ≤ 4) : x_V 167 (d + 2) [.ref 0, .int (nI 0)] (f, g, x_HR 22 t, dm, n) (.int (match T.1 0 with | none => 2 | some c => if c.2 < K then 3 else 0)) (f, g, x_HR 22 t, dm, n) := by
  have h1 := hT 0 (by decide)
  refine x_Ct_w (by decide) (Nat.le_of_ble_eq_true rfl) ok167 [] 8 ?_
  refine Exists.intro _ (And.intro c_isTray (And.intro (And.intro (Nat.zero_le _) (Nat.zero_le _)) (fun q h' hpo => ?_)))
  obtain ⟨rfl, rfl⟩ := hpo
  refine And.intro (fun _ => ?_) (fun c => absurd c (by decide))
  refine And.intro (x_ix_nI (by omega) (by omega)) ?_
  rw [nI_clamp (by omega)]
  refine Exists.intro _ (And.intro c_isMissing_0 (And.intro (And.intro (Nat.zero_le _) (Nat.zero_le _)) (fun q h' hpo => ?_)))
  obtain ⟨rfl, rfl⟩ := hpo
  cases ho : T.1 0 with
  | none =>
    rw [ho] at h1
    have h1 : f 2 1 = -1 := h1
    rw [decide_eq_true h1]
    refine And.intro (fun c => absurd c (by decide)) (fun _ => ?_)
    exact And.intro ⟨rfl, rfl⟩ ⟨trivial, Nat.le_refl _, Nat.le_refl _⟩
  | some c =>
    rw [ho] at h1
    obtain ⟨a1, a2, a3, a4, a5⟩ := h1
    have a1 : f 2 1 = nI c.2 := a1
    rw [decide_eq_false (by rw [a1]; exact x_nIm (by omega))]
    refine And.intro (fun _ => ?_) (fun c => absurd rfl c)
    dsimp only
    refine And.intro (x_ix_nI (by omega) (by omega)) ?_
    rw [nI_clamp (by omega)]
    refine And.intro (fun c1 => ?_) (fun c1 => ?_)
    · have c1 : f 22 0 ≤ f 2 1 := c1
      rw [a1, hK, nI_leI (by omega) (by omega)] at c1
      exact And.intro ⟨(by rw [if_neg (by omega)]; rfl), rfl⟩ ⟨trivial, Nat.le_refl _, Nat.le_refl _⟩
    · have c1 : ¬ f 22 0 ≤ f 2 1 := c1
      rw [a1, hK, nI_leI (by omega) (by omega)] at c1
      exact And.intro ⟨(by rw [if_pos (by omega)]; rfl), rfl⟩ ⟨trivial, Nat.le_refl _, Nat.le_refl _⟩
theorem c_tray_0 {y z : Int32} (hT : x_TC f g T) : x_Ct 100 (d + 2) [.ref 0, .int (nI 0), .int y, .int z] (f, g, x_HR r t, dm, n) (x_QT f g (x_HR r t) dm n (st_tray T (nI 0) y z)) := by
  unfold st_tray
  refine x_Ct_w (by decide) (Nat.le_of_ble_eq_true rfl) ok100 [] 8 ?_
  refine Exists.intro _ (And.intro c_isTray (And.intro (And.intro (Nat.zero_le _) (Nat.zero_le _)) (fun q h' hpo => ?_)))
  obtain ⟨rfl, rfl⟩ := hpo
  refine And.intro (fun c => absurd c (by decide)) (fun _ => ?_)
  refine Exists.intro _ (And.intro (c_within (x := y) (lo := 0) (hi := 3)) (And.intro (And.intro (Nat.zero_le _) (Nat.zero_le _)) (fun q h' hpo => ?_)))
  obtain ⟨rfl, rfl⟩ := hpo
  cases hy : x_wi y 0 3 with
  | false =>
    rw [Bool.false_and, Bool.and_false, if_neg (by decide)]
    refine And.intro (fun _ => ?_) (fun c => absurd rfl c)
    refine Exists.intro _ (And.intro c_refused (And.intro (And.intro (Nat.zero_le _) (Nat.zero_le _)) (fun q h' hpo => ?_)))
    obtain ⟨rfl, rfl⟩ := hpo
    refine And.intro ?_ ⟨Or.inl rfl, Nat.le_refl _, Nat.le_refl _⟩
    exact x_QT_0 hT
  | true =>
    refine And.intro (fun c => absurd c (by decide)) (fun _ => ?_)
    refine Exists.intro _ (And.intro (c_within (x := z) (lo := 0) (hi := 60)) (And.intro (And.intro (Nat.zero_le _) (Nat.zero_le _)) (fun q h' hpo => ?_)))
    obtain ⟨rfl, rfl⟩ := hpo
    cases hz : x_wi z 0 60 with
    | false =>
      rw [Bool.and_false, Bool.and_false, if_neg (by decide)]
      refine And.intro (fun c => absurd rfl c) (fun _ => ?_)
      refine Exists.intro _ (And.intro c_refused (And.intro (And.intro (Nat.zero_le _) (Nat.zero_le _)) (fun q h' hpo => ?_)))
      obtain ⟨rfl, rfl⟩ := hpo
      refine And.intro ?_ ⟨Or.inl rfl, Nat.le_refl _, Nat.le_refl _⟩
      exact x_QT_0 hT
    | true =>
      refine And.intro (fun _ => ?_) (fun c => absurd c (by decide))
      rw [if_pos (show (x_wi (nI 0) 0 3 && (true && true)) = true by decide), show x_c (nI 0) = 0 from rfl]
      obtain ⟨s, hs1, hs, rfl⟩ := x_wi_t (lo := 0) (hi := 3) hy (by decide) (by decide)
      obtain ⟨m, hm1, hm, rfl⟩ := x_wi_t (lo := 0) (hi := 60) hz (by decide) (by decide)
      rw [x_c, x_c, nI_clamp (by omega), nI_clamp (by omega)]
      refine And.intro (x_ix_nI (by omega) (by omega)) ?_
      rw [nI_clamp (by omega)]
      refine Exists.intro _ (And.intro c_begin_0 (And.intro (And.intro (Nat.zero_le _) (Nat.zero_le _)) (fun q h' hpo => ?_)))
      obtain ⟨rfl, G, rfl, g1, g2⟩ := hpo
      refine Exists.intro _ (And.intro c_agreed (And.intro (And.intro (Nat.zero_le _) (Nat.zero_le _)) (fun q h' hpo => ?_)))
      obtain ⟨rfl, rfl⟩ := hpo
      refine And.intro ?_ ⟨Or.inr rfl, Nat.le_refl _, Nat.le_refl _⟩
      refine x_QT_S (x_TC_set (F := x_up (x_up f 2 2 (nI s)) 2 1 (nI m)) (G := G) (i := 0) (c := some (s, m)) (u := fun _ => 0) hT (fun k hk => ?_) (fun k hk => g1 k hk) ⟨x_up_s _ _ _ _, (x_up_j (by decide)).trans (x_up_s _ _ _ _), hs, hm, fun j hj => g2 j (Nat.lt_of_lt_of_le hj hm)⟩) (fun k hk => ?_) (fun k hk => g1 k (by omega))
      · rw [x_up_k hk, x_up_k hk]
      · rw [x_up_k (by omega), x_up_k (by omega)]
theorem c_write_0 {y : Int32} {w : Int64} (hT : x_TC f g T) : x_Ct 101 (d + 3) [.ref 0, .int (nI 0), .int y, .long w] (f, g, x_HR r t, dm, n) (x_QT f g (x_HR r t) dm n (st_write T (nI 0) y w)) := by
  have h1 := hT 0 (by decide)
  unfold st_write
  refine x_Ct_w (by decide) (Nat.le_of_ble_eq_true rfl) ok101 [] 8 ?_
  refine Exists.intro _ (And.intro (c_wrongPlace_0 hT) (And.intro (And.intro (Nat.zero_le _) (Nat.zero_le _)) (fun q h' hpo => ?_)))
  obtain ⟨rfl, rfl⟩ := hpo
  by_cases hw : y_wp T (nI 0) y = 0
  · rw [if_pos hw, hw]
    refine And.intro (fun _ => ?_) (fun c => absurd rfl c)
    unfold y_wp at hw
    rw [if_pos (by decide), show x_c (nI 0) = 0 from rfl] at hw
    cases ho : T.1 0 with
    | none =>
      rw [ho] at hw
      exact absurd (show (2 : Int32) = 0 from hw) (by decide)
    | some c =>
      rw [ho] at hw h1
      dsimp only at hw
      by_cases hx : x_ixb y c.2 = true
      · obtain ⟨a1, a2, a3, a4, a5⟩ := h1
        have a1 : f 2 1 = nI c.2 := a1
        have a2 : f 2 2 = nI c.1 := a2
        obtain ⟨j, hj, rfl⟩ := x_ixb_t hx (by omega)
        rw [show x_c (nI 0) = 0 from rfl, x_c, nI_clamp (by omega), ho, show y_so T 0 = c.1 by unfold y_so; rw [ho]]
        refine And.intro (x_ix_nI (by omega) (by omega)) ?_
        rw [nI_clamp (by omega)]
        refine Exists.intro _ (And.intro (c_put_0 (show j < 60 by omega)) (And.intro (And.intro (Nat.zero_le _) (Nat.zero_le _)) (fun q h' hpo => ?_)))
        obtain ⟨rfl, rfl⟩ := hpo
        refine Exists.intro _ (And.intro c_agreed (And.intro (And.intro (Nat.zero_le _) (Nat.zero_le _)) (fun q h' hpo => ?_)))
        obtain ⟨rfl, rfl⟩ := hpo
        refine And.intro ?_ ⟨Or.inr rfl, Nat.le_refl _, Nat.le_refl _⟩
        rw [← a2]
        refine x_QT_S (x_TC_set (F := f) (G := x_up g 3 j (y_cut (f 2 2) w)) (i := 0) (c := some c) (u := va_up (T.2 0) j (y_cut (f 2 2) w)) hT (fun _ _ => rfl) (fun k hk => x_up_k hk) ⟨a1, a2, a3, a4, fun k hk => ?_⟩) (fun _ _ => rfl) (fun k hk => x_up_k (by omega))
        by_cases e : k = j
        · subst e
          rw [x_us]
          exact x_up_s _ _ _ _
        · rw [x_un e]
          exact (x_up_j e).trans (a5 k hk)
      · rw [if_neg hx] at hw
        exact absurd hw (by decide)
  · rw [if_neg hw]
    refine And.intro (fun c => absurd c hw) (fun _ => ?_)
    refine Exists.intro _ (And.intro c_refused (And.intro (And.intro (Nat.zero_le _) (Nat.zero_le _)) (fun q h' hpo => ?_)))
    obtain ⟨rfl, rfl⟩ := hpo
    refine And.intro ?_ ⟨Or.inl rfl, Nat.le_refl _, Nat.le_refl _⟩
    exact x_QT_0 hT
theorem c_read_0 {y : Int32} (hT : x_TC f g T) : x_Ct 102 (d + 3) [.ref 0, .int (nI 0), .int y] (f, g, x_HR r t, dm, n) (x_QT f g (x_HR r t) dm n (st_read T (nI 0) y)) := by
  have h1 := hT 0 (by decide)
  unfold st_read
  refine x_Ct_w (by decide) (Nat.le_of_ble_eq_true rfl) ok102 [] 8 ?_
  refine Exists.intro _ (And.intro (c_wrongPlace_0 hT) (And.intro (And.intro (Nat.zero_le _) (Nat.zero_le _)) (fun q h' hpo => ?_)))
  obtain ⟨rfl, rfl⟩ := hpo
  by_cases hw : y_wp T (nI 0) y = 0
  · rw [if_pos hw, hw]
    refine And.intro (fun _ => ?_) (fun c => absurd rfl c)
    unfold y_wp at hw
    rw [if_pos (by decide), show x_c (nI 0) = 0 from rfl] at hw
    cases ho : T.1 0 with
    | none =>
      rw [ho] at hw
      exact absurd (show (2 : Int32) = 0 from hw) (by decide)
    | some c =>
      rw [ho] at hw h1
      dsimp only at hw
      by_cases hx : x_ixb y c.2 = true
      · obtain ⟨a1, a2, a3, a4, a5⟩ := h1
        obtain ⟨j, hj, rfl⟩ := x_ixb_t hx (by omega)
        rw [show x_c (nI 0) = 0 from rfl, x_c, nI_clamp (by omega)]
        refine And.intro (x_ix_nI (by omega) (by omega)) ?_
        rw [nI_clamp (by omega)]
        refine And.intro (x_ix_nI (by omega) (by omega)) ?_
        rw [nI_clamp (by omega)]
        refine And.intro ?_ ⟨trivial, Nat.le_refl _, Nat.le_refl _⟩
        rw [show T.2 0 j = g 3 j from (a5 j hj).symm]
        exact x_QT_0 hT
      · rw [if_neg hx] at hw
        exact absurd hw (by decide)
  · rw [if_neg hw]
    refine And.intro (fun c => absurd c hw) (fun _ => ?_)
    refine Exists.intro _ (And.intro c_refuse (And.intro (And.intro (Nat.zero_le _) (Nat.zero_le _)) (fun q h' hpo => ?_)))
    obtain ⟨rfl, rfl⟩ := hpo
    refine And.intro ?_ ⟨trivial, Nat.le_refl _, Nat.le_refl _⟩
    exact x_QT_0 hT
theorem c_isMissing_1 : x_V 93 d [.ref 4] (f, g, ρ, dm, n) (.int (x_bo (decide (f 4 1 = -1)))) (f, g, ρ, dm, n) := by
  refine x_Ct_w (by decide) (Nat.le_of_ble_eq_true rfl) ok93 [] 4 ?_
  refine And.intro (fun c => ?_) (fun c => ?_)
  · have c : ¬ f 4 1 = -1 := c
    exact And.intro ⟨(by rw [decide_eq_false c]; rfl), rfl⟩ ⟨Or.inl rfl, Nat.le_refl _, Nat.le_refl _⟩
  · have c : f 4 1 = -1 := c
    exact And.intro ⟨(by rw [decide_eq_true c]; rfl), rfl⟩ ⟨Or.inr rfl, Nat.le_refl _, Nat.le_refl _⟩
theorem c_begin_1 {s m : Int32} : x_Ct 94 d [.ref 4, .int s, .int m] (f, g, x_HR r t, dm, n) (fun q h' => q = none ∧ ∃ G, h' = (x_up (x_up f 4 2 s) 4 1 m, G, x_HR r t, dm, n) ∧ (∀ k, k ≠ 5 → G k = g k) ∧ ∀ j, j < 60 → G 5 j = 0) := by
  have loop : ∀ p i G, i + p = 60 → (∀ k, k ≠ 5 → G k = g k) → (∀ j, j < i → G 5 j = 0) → x_J 94 d (fun q h' => q = none ∧ ∃ G, h' = (x_up (x_up f 4 2 s) 4 1 m, G, x_HR r t, dm, n) ∧ (∀ k, k ≠ 5 → G k = g k) ∧ ∀ j, j < 60 → G 5 j = 0) 12 [some (.ref 4), some (.int s), some (.int m), some (.int (nI i))] [] (x_up (x_up f 4 2 s) 4 1 m, G, x_HR r t, dm, n) 0 0 := by
    intro p
    induction p with
    | zero =>
      intro i G hi h1 h2
      obtain rfl : i = 60 := by omega
      refine x_wp_ok ok94 [12] 4 ?_
      refine And.intro (fun c => ?_) (fun c => ?_)
      · exact And.intro ⟨rfl, G, rfl, h1, h2⟩ ⟨trivial, Nat.le_refl _, Nat.le_refl _⟩
      · exact absurd (show nI 60 ≤ nI 60 by decide) c
    | succ p ih =>
      intro i G hi h1 h2
      refine x_wp_ok ok94 [12] 4 ?_
      refine And.intro (fun c => ?_) (fun c => ?_)
      · have c : nI 60 ≤ nI i := c
        rw [nI_leI (by decide) (by omega)] at c
        omega
      · refine And.intro (x_ix_nI (by omega) (by omega)) ?_
        rw [nI_clamp (by omega)]
        have e := ih (i + 1) (x_up G 5 i 0) (by omega) (fun k hk => by rw [x_up_k hk]; exact h1 k hk) (fun j hj => by
          by_cases e : j = i
          · subst e
            rw [x_up_s]
          · rw [x_up_j e]
            exact h2 j (by omega))
        rw [nI_succ i] at e
        exact e
  exact x_Ct_w (by decide) (Nat.le_of_ble_eq_true rfl) ok94 [12] 4 (loop 60 0 g (Nat.zero_add _) (fun _ _ => rfl) (fun j hj => by omega))
theorem c_put_1 {j : Nat} {w : Int64} (hj : j < 60) : x_Ct 95 d [.ref 4, .int (nI j), .long w] (f, g, x_HR r t, dm, n) (fun q h' => q = none ∧ h' = (f, x_up g 5 j (y_cut (f 4 2) w), x_HR r t, dm, n)) := by
  refine x_Ct_w (by decide) (Nat.le_of_ble_eq_true rfl) ok95 [] 10 ?_
  refine And.intro (fun c => ?_) (fun _ => ?_)
  · have c : nI j < nI 0 := c
    rw [nI_ltI (by omega) (by decide)] at c
    omega
  · refine And.intro (fun _ => ?_) (fun c => ?_)
    · refine And.intro (fun c0 => ?_) (fun c0 => ?_)
      · have c0 : ¬ f 4 2 = 0 := c0
        refine And.intro (fun c1 => ?_) (fun c1 => ?_)
        · have c1 : ¬ f 4 2 = 1 := c1
          refine And.intro (fun c2 => ?_) (fun c2 => ?_)
          · have c2 : ¬ f 4 2 = 2 := c2
            refine And.intro (x_ix_nI (by omega) (by omega)) ?_
            rw [nI_clamp (by omega)]
            exact And.intro ⟨rfl, by unfold y_cut; rw [if_neg c0, if_neg c1, if_neg c2]⟩ ⟨trivial, Nat.le_refl _, Nat.le_refl _⟩
          · have c2 : f 4 2 = 2 := c2
            refine And.intro (x_ix_nI (by omega) (by omega)) ?_
            rw [nI_clamp (by omega)]
            exact And.intro ⟨rfl, by unfold y_cut; rw [if_neg c0, if_neg c1, if_pos c2]⟩ ⟨trivial, Nat.le_refl _, Nat.le_refl _⟩
        · have c1 : f 4 2 = 1 := c1
          refine And.intro (x_ix_nI (by omega) (by omega)) ?_
          rw [nI_clamp (by omega)]
          exact And.intro ⟨rfl, by unfold y_cut; rw [if_neg c0, if_pos c1]⟩ ⟨trivial, Nat.le_refl _, Nat.le_refl _⟩
      · have c0 : f 4 2 = 0 := c0
        refine And.intro (x_ix_nI (by omega) (by omega)) ?_
        rw [nI_clamp (by omega)]
        exact And.intro ⟨rfl, by unfold y_cut; rw [if_pos c0]⟩ ⟨trivial, Nat.le_refl _, Nat.le_refl _⟩
    · have c : ¬ nI j < nI 60 := c
      rw [nI_ltI (by omega) (by decide)] at c
      omega
theorem c_wrongPlace_1 {y : Int32} (hT : x_TC f g T) : x_V 166 (d + 2) [.ref 0, .int (nI 1), .int y] (f, g, x_HR r t, dm, n) (.int (y_wp T (nI 1) y)) (f, g, x_HR r t, dm, n) := by
  have h1 := hT 1 (by decide)
  unfold y_wp
  rw [if_pos (by decide), show x_c (nI 1) = 1 from rfl]
  refine x_Ct_w (by decide) (Nat.le_of_ble_eq_true rfl) ok166 [] 8 ?_
  refine Exists.intro _ (And.intro c_isTray (And.intro (And.intro (Nat.zero_le _) (Nat.zero_le _)) (fun q h' hpo => ?_)))
  obtain ⟨rfl, rfl⟩ := hpo
  refine And.intro (fun _ => ?_) (fun c => absurd c (by decide))
  refine And.intro (x_ix_nI (by omega) (by omega)) ?_
  rw [nI_clamp (by omega)]
  refine Exists.intro _ (And.intro c_isMissing_1 (And.intro (And.intro (Nat.zero_le _) (Nat.zero_le _)) (fun q h' hpo => ?_)))
  obtain ⟨rfl, rfl⟩ := hpo
  cases ho : T.1 1 with
  | none =>
    rw [ho] at h1
    have h1 : f 4 1 = -1 := h1
    rw [decide_eq_true h1]
    refine And.intro (fun c => absurd c (by decide)) (fun _ => ?_)
    exact And.intro ⟨rfl, rfl⟩ ⟨trivial, Nat.le_refl _, Nat.le_refl _⟩
  | some c =>
    rw [ho] at h1
    obtain ⟨a1, a2, a3, a4, a5⟩ := h1
    have a1 : f 4 1 = nI c.2 := a1
    rw [decide_eq_false (by rw [a1]; exact x_nIm (by omega))]
    refine And.intro (fun _ => ?_) (fun c => absurd rfl c)
    dsimp only
    refine And.intro (fun c1 => ?_) (fun c1 => ?_)
    · have c1 : y < 0 := c1
      rw [x_lt, x_i0] at c1
      exact And.intro ⟨(by rw [if_neg (by simp only [x_ixb, Bool.and_eq_true, decide_eq_true_eq]; omega)]; rfl), rfl⟩ ⟨trivial, Nat.le_refl _, Nat.le_refl _⟩
    · have c1 : ¬ y < 0 := c1
      rw [x_lt, x_i0] at c1
      refine And.intro (x_ix_nI (by omega) (by omega)) ?_
      rw [nI_clamp (by omega)]
      refine And.intro (fun c2 => ?_) (fun c2 => ?_)
      · have c2 : y < f 4 1 := c2
        rw [a1, x_lt, nI_toInt (by omega)] at c2
        exact And.intro ⟨(by rw [if_pos (by simp only [x_ixb, Bool.and_eq_true, decide_eq_true_eq]; omega)]; rfl), rfl⟩ ⟨trivial, Nat.le_refl _, Nat.le_refl _⟩
      · have c2 : ¬ y < f 4 1 := c2
        rw [a1, x_lt, nI_toInt (by omega)] at c2
        exact And.intro ⟨(by rw [if_neg (by simp only [x_ixb, Bool.and_eq_true, decide_eq_true_eq]; omega)]; rfl), rfl⟩ ⟨trivial, Nat.le_refl _, Nat.le_refl _⟩
theorem c_wrongForKinds_1_12 {K : Nat} (hT : x_TC f g T) (hK : f 12 0 = nI K) (hK4 : K ≤ 4) : x_V 167 (d + 2) [.ref 0, .int (nI 1)] (f, g, x_HR 12 t, dm, n) (.int (match T.1 1 with | none => 2 | some c => if c.2 < K then 3 else 0)) (f, g, x_HR 12 t, dm, n) := by
  have h1 := hT 1 (by decide)
  refine x_Ct_w (by decide) (Nat.le_of_ble_eq_true rfl) ok167 [] 8 ?_
  refine Exists.intro _ (And.intro c_isTray (And.intro (And.intro (Nat.zero_le _) (Nat.zero_le _)) (fun q h' hpo => ?_)))
  obtain ⟨rfl, rfl⟩ := hpo
  refine And.intro (fun _ => ?_) (fun c => absurd c (by decide))
  refine And.intro (x_ix_nI (by omega) (by omega)) ?_
  rw [nI_clamp (by omega)]
  refine Exists.intro _ (And.intro c_isMissing_1 (And.intro (And.intro (Nat.zero_le _) (Nat.zero_le _)) (fun q h' hpo => ?_)))
  obtain ⟨rfl, rfl⟩ := hpo
  cases ho : T.1 1 with
  | none =>
    rw [ho] at h1
    have h1 : f 4 1 = -1 := h1
    rw [decide_eq_true h1]
    refine And.intro (fun c => absurd c (by decide)) (fun _ => ?_)
    exact And.intro ⟨rfl, rfl⟩ ⟨trivial, Nat.le_refl _, Nat.le_refl _⟩
  | some c =>
    rw [ho] at h1
    obtain ⟨a1, a2, a3, a4, a5⟩ := h1
    have a1 : f 4 1 = nI c.2 := a1
    rw [decide_eq_false (by rw [a1]; exact x_nIm (by omega))]
    refine And.intro (fun _ => ?_) (fun c => absurd rfl c)
    dsimp only
    refine And.intro (x_ix_nI (by omega) (by omega)) ?_
    rw [nI_clamp (by omega)]
    refine And.intro (fun c1 => ?_) (fun c1 => ?_)
    · have c1 : f 12 0 ≤ f 4 1 := c1
      rw [a1, hK, nI_leI (by omega) (by omega)] at c1
      exact And.intro ⟨(by rw [if_neg (by omega)]; rfl), rfl⟩ ⟨trivial, Nat.le_refl _, Nat.le_refl _⟩
    · have c1 : ¬ f 12 0 ≤ f 4 1 := c1
      rw [a1, hK, nI_leI (by omega) (by omega)] at c1
      exact And.intro ⟨(by rw [if_pos (by omega)]; rfl), rfl⟩ ⟨trivial, Nat.le_refl _, Nat.le_refl _⟩
theorem c_wrongForKinds_1_22 {K : Nat} (hT : x_TC f g T) (hK : f 22 0 = nI K) (hK4 : K ≤ 4) : x_V 167 (d + 2) [.ref 0, .int (nI 1)] (f, g, x_HR 22 t, dm, n) (.int (match T.1 1 with | none => 2 | some c => if c.2 < K then 3 else 0)) (f, g, x_HR 22 t, dm, n) := by
  have h1 := hT 1 (by decide)
  refine x_Ct_w (by decide) (Nat.le_of_ble_eq_true rfl) ok167 [] 8 ?_
  refine Exists.intro _ (And.intro c_isTray (And.intro (And.intro (Nat.zero_le _) (Nat.zero_le _)) (fun q h' hpo => ?_)))
  obtain ⟨rfl, rfl⟩ := hpo
  refine And.intro (fun _ => ?_) (fun c => absurd c (by decide))
  refine And.intro (x_ix_nI (by omega) (by omega)) ?_
  rw [nI_clamp (by omega)]
  refine Exists.intro _ (And.intro c_isMissing_1 (And.intro (And.intro (Nat.zero_le _) (Nat.zero_le _)) (fun q h' hpo => ?_)))
  obtain ⟨rfl, rfl⟩ := hpo
  cases ho : T.1 1 with
  | none =>
    rw [ho] at h1
    have h1 : f 4 1 = -1 := h1
    rw [decide_eq_true h1]
    refine And.intro (fun c => absurd c (by decide)) (fun _ => ?_)
    exact And.intro ⟨rfl, rfl⟩ ⟨trivial, Nat.le_refl _, Nat.le_refl _⟩
  | some c =>
    rw [ho] at h1
    obtain ⟨a1, a2, a3, a4, a5⟩ := h1
    have a1 : f 4 1 = nI c.2 := a1
    rw [decide_eq_false (by rw [a1]; exact x_nIm (by omega))]
    refine And.intro (fun _ => ?_) (fun c => absurd rfl c)
    dsimp only
    refine And.intro (x_ix_nI (by omega) (by omega)) ?_
    rw [nI_clamp (by omega)]
    refine And.intro (fun c1 => ?_) (fun c1 => ?_)
    · have c1 : f 22 0 ≤ f 4 1 := c1
      rw [a1, hK, nI_leI (by omega) (by omega)] at c1
      exact And.intro ⟨(by rw [if_neg (by omega)]; rfl), rfl⟩ ⟨trivial, Nat.le_refl _, Nat.le_refl _⟩
    · have c1 : ¬ f 22 0 ≤ f 4 1 := c1
      rw [a1, hK, nI_leI (by omega) (by omega)] at c1
      exact And.intro ⟨(by rw [if_pos (by omega)]; rfl), rfl⟩ ⟨trivial, Nat.le_refl _, Nat.le_refl _⟩
theorem c_tray_1 {y z : Int32} (hT : x_TC f g T) : x_Ct 100 (d + 2) [.ref 0, .int (nI 1), .int y, .int z] (f, g, x_HR r t, dm, n) (x_QT f g (x_HR r t) dm n (st_tray T (nI 1) y z)) := by
  unfold st_tray
  refine x_Ct_w (by decide) (Nat.le_of_ble_eq_true rfl) ok100 [] 8 ?_
  refine Exists.intro _ (And.intro c_isTray (And.intro (And.intro (Nat.zero_le _) (Nat.zero_le _)) (fun q h' hpo => ?_)))
  obtain ⟨rfl, rfl⟩ := hpo
  refine And.intro (fun c => absurd c (by decide)) (fun _ => ?_)
  refine Exists.intro _ (And.intro (c_within (x := y) (lo := 0) (hi := 3)) (And.intro (And.intro (Nat.zero_le _) (Nat.zero_le _)) (fun q h' hpo => ?_)))
  obtain ⟨rfl, rfl⟩ := hpo
  cases hy : x_wi y 0 3 with
  | false =>
    rw [Bool.false_and, Bool.and_false, if_neg (by decide)]
    refine And.intro (fun _ => ?_) (fun c => absurd rfl c)
    refine Exists.intro _ (And.intro c_refused (And.intro (And.intro (Nat.zero_le _) (Nat.zero_le _)) (fun q h' hpo => ?_)))
    obtain ⟨rfl, rfl⟩ := hpo
    refine And.intro ?_ ⟨Or.inl rfl, Nat.le_refl _, Nat.le_refl _⟩
    exact x_QT_0 hT
  | true =>
    refine And.intro (fun c => absurd c (by decide)) (fun _ => ?_)
    refine Exists.intro _ (And.intro (c_within (x := z) (lo := 0) (hi := 60)) (And.intro (And.intro (Nat.zero_le _) (Nat.zero_le _)) (fun q h' hpo => ?_)))
    obtain ⟨rfl, rfl⟩ := hpo
    cases hz : x_wi z 0 60 with
    | false =>
      rw [Bool.and_false, Bool.and_false, if_neg (by decide)]
      refine And.intro (fun c => absurd rfl c) (fun _ => ?_)
      refine Exists.intro _ (And.intro c_refused (And.intro (And.intro (Nat.zero_le _) (Nat.zero_le _)) (fun q h' hpo => ?_)))
      obtain ⟨rfl, rfl⟩ := hpo
      refine And.intro ?_ ⟨Or.inl rfl, Nat.le_refl _, Nat.le_refl _⟩
      exact x_QT_0 hT
    | true =>
      refine And.intro (fun _ => ?_) (fun c => absurd c (by decide))
      rw [if_pos (show (x_wi (nI 1) 0 3 && (true && true)) = true by decide), show x_c (nI 1) = 1 from rfl]
      obtain ⟨s, hs1, hs, rfl⟩ := x_wi_t (lo := 0) (hi := 3) hy (by decide) (by decide)
      obtain ⟨m, hm1, hm, rfl⟩ := x_wi_t (lo := 0) (hi := 60) hz (by decide) (by decide)
      rw [x_c, x_c, nI_clamp (by omega), nI_clamp (by omega)]
      refine And.intro (x_ix_nI (by omega) (by omega)) ?_
      rw [nI_clamp (by omega)]
      refine Exists.intro _ (And.intro c_begin_1 (And.intro (And.intro (Nat.zero_le _) (Nat.zero_le _)) (fun q h' hpo => ?_)))
      obtain ⟨rfl, G, rfl, g1, g2⟩ := hpo
      refine Exists.intro _ (And.intro c_agreed (And.intro (And.intro (Nat.zero_le _) (Nat.zero_le _)) (fun q h' hpo => ?_)))
      obtain ⟨rfl, rfl⟩ := hpo
      refine And.intro ?_ ⟨Or.inr rfl, Nat.le_refl _, Nat.le_refl _⟩
      refine x_QT_S (x_TC_set (F := x_up (x_up f 4 2 (nI s)) 4 1 (nI m)) (G := G) (i := 1) (c := some (s, m)) (u := fun _ => 0) hT (fun k hk => ?_) (fun k hk => g1 k hk) ⟨x_up_s _ _ _ _, (x_up_j (by decide)).trans (x_up_s _ _ _ _), hs, hm, fun j hj => g2 j (Nat.lt_of_lt_of_le hj hm)⟩) (fun k hk => ?_) (fun k hk => g1 k (by omega))
      · rw [x_up_k hk, x_up_k hk]
      · rw [x_up_k (by omega), x_up_k (by omega)]
theorem c_write_1 {y : Int32} {w : Int64} (hT : x_TC f g T) : x_Ct 101 (d + 3) [.ref 0, .int (nI 1), .int y, .long w] (f, g, x_HR r t, dm, n) (x_QT f g (x_HR r t) dm n (st_write T (nI 1) y w)) := by
  have h1 := hT 1 (by decide)
  unfold st_write
  refine x_Ct_w (by decide) (Nat.le_of_ble_eq_true rfl) ok101 [] 8 ?_
  refine Exists.intro _ (And.intro (c_wrongPlace_1 hT) (And.intro (And.intro (Nat.zero_le _) (Nat.zero_le _)) (fun q h' hpo => ?_)))
  obtain ⟨rfl, rfl⟩ := hpo
  by_cases hw : y_wp T (nI 1) y = 0
  · rw [if_pos hw, hw]
    refine And.intro (fun _ => ?_) (fun c => absurd rfl c)
    unfold y_wp at hw
    rw [if_pos (by decide), show x_c (nI 1) = 1 from rfl] at hw
    cases ho : T.1 1 with
    | none =>
      rw [ho] at hw
      exact absurd (show (2 : Int32) = 0 from hw) (by decide)
    | some c =>
      rw [ho] at hw h1
      dsimp only at hw
      by_cases hx : x_ixb y c.2 = true
      · obtain ⟨a1, a2, a3, a4, a5⟩ := h1
        have a1 : f 4 1 = nI c.2 := a1
        have a2 : f 4 2 = nI c.1 := a2
        obtain ⟨j, hj, rfl⟩ := x_ixb_t hx (by omega)
        rw [show x_c (nI 1) = 1 from rfl, x_c, nI_clamp (by omega), ho, show y_so T 1 = c.1 by unfold y_so; rw [ho]]
        refine And.intro (x_ix_nI (by omega) (by omega)) ?_
        rw [nI_clamp (by omega)]
        refine Exists.intro _ (And.intro (c_put_1 (show j < 60 by omega)) (And.intro (And.intro (Nat.zero_le _) (Nat.zero_le _)) (fun q h' hpo => ?_)))
        obtain ⟨rfl, rfl⟩ := hpo
        refine Exists.intro _ (And.intro c_agreed (And.intro (And.intro (Nat.zero_le _) (Nat.zero_le _)) (fun q h' hpo => ?_)))
        obtain ⟨rfl, rfl⟩ := hpo
        refine And.intro ?_ ⟨Or.inr rfl, Nat.le_refl _, Nat.le_refl _⟩
        rw [← a2]
        refine x_QT_S (x_TC_set (F := f) (G := x_up g 5 j (y_cut (f 4 2) w)) (i := 1) (c := some c) (u := va_up (T.2 1) j (y_cut (f 4 2) w)) hT (fun _ _ => rfl) (fun k hk => x_up_k hk) ⟨a1, a2, a3, a4, fun k hk => ?_⟩) (fun _ _ => rfl) (fun k hk => x_up_k (by omega))
        by_cases e : k = j
        · subst e
          rw [x_us]
          exact x_up_s _ _ _ _
        · rw [x_un e]
          exact (x_up_j e).trans (a5 k hk)
      · rw [if_neg hx] at hw
        exact absurd hw (by decide)
  · rw [if_neg hw]
    refine And.intro (fun c => absurd c hw) (fun _ => ?_)
    refine Exists.intro _ (And.intro c_refused (And.intro (And.intro (Nat.zero_le _) (Nat.zero_le _)) (fun q h' hpo => ?_)))
    obtain ⟨rfl, rfl⟩ := hpo
    refine And.intro ?_ ⟨Or.inl rfl, Nat.le_refl _, Nat.le_refl _⟩
    exact x_QT_0 hT
theorem c_read_1 {y : Int32} (hT : x_TC f g T) : x_Ct 102 (d + 3) [.ref 0, .int (nI 1), .int y] (f, g, x_HR r t, dm, n) (x_QT f g (x_HR r t) dm n (st_read T (nI 1) y)) := by
  have h1 := hT 1 (by decide)
  unfold st_read
  refine x_Ct_w (by decide) (Nat.le_of_ble_eq_true rfl) ok102 [] 8 ?_
  refine Exists.intro _ (And.intro (c_wrongPlace_1 hT) (And.intro (And.intro (Nat.zero_le _) (Nat.zero_le _)) (fun q h' hpo => ?_)))
  obtain ⟨rfl, rfl⟩ := hpo
  by_cases hw : y_wp T (nI 1) y = 0
  · rw [if_pos hw, hw]
    refine And.intro (fun _ => ?_) (fun c => absurd rfl c)
    unfold y_wp at hw
    rw [if_pos (by decide), show x_c (nI 1) = 1 from rfl] at hw
    cases ho : T.1 1 with
    | none =>
      rw [ho] at hw
      exact absurd (show (2 : Int32) = 0 from hw) (by decide)
    | some c =>
      rw [ho] at hw h1
      dsimp only at hw
      by_cases hx : x_ixb y c.2 = true
      · obtain ⟨a1, a2, a3, a4, a5⟩ := h1
        obtain ⟨j, hj, rfl⟩ := x_ixb_t hx (by omega)
        rw [show x_c (nI 1) = 1 from rfl, x_c, nI_clamp (by omega)]
        refine And.intro (x_ix_nI (by omega) (by omega)) ?_
        rw [nI_clamp (by omega)]
        refine And.intro (x_ix_nI (by omega) (by omega)) ?_
        rw [nI_clamp (by omega)]
        refine And.intro ?_ ⟨trivial, Nat.le_refl _, Nat.le_refl _⟩
        rw [show T.2 1 j = g 5 j from (a5 j hj).symm]
        exact x_QT_0 hT
      · rw [if_neg hx] at hw
        exact absurd hw (by decide)
  · rw [if_neg hw]
    refine And.intro (fun c => absurd c hw) (fun _ => ?_)
    refine Exists.intro _ (And.intro c_refuse (And.intro (And.intro (Nat.zero_le _) (Nat.zero_le _)) (fun q h' hpo => ?_)))
    obtain ⟨rfl, rfl⟩ := hpo
    refine And.intro ?_ ⟨trivial, Nat.le_refl _, Nat.le_refl _⟩
    exact x_QT_0 hT
theorem c_isMissing_2 : x_V 93 d [.ref 6] (f, g, ρ, dm, n) (.int (x_bo (decide (f 6 1 = -1)))) (f, g, ρ, dm, n) := by
  refine x_Ct_w (by decide) (Nat.le_of_ble_eq_true rfl) ok93 [] 4 ?_
  refine And.intro (fun c => ?_) (fun c => ?_)
  · have c : ¬ f 6 1 = -1 := c
    exact And.intro ⟨(by rw [decide_eq_false c]; rfl), rfl⟩ ⟨Or.inl rfl, Nat.le_refl _, Nat.le_refl _⟩
  · have c : f 6 1 = -1 := c
    exact And.intro ⟨(by rw [decide_eq_true c]; rfl), rfl⟩ ⟨Or.inr rfl, Nat.le_refl _, Nat.le_refl _⟩
theorem c_begin_2 {s m : Int32} : x_Ct 94 d [.ref 6, .int s, .int m] (f, g, x_HR r t, dm, n) (fun q h' => q = none ∧ ∃ G, h' = (x_up (x_up f 6 2 s) 6 1 m, G, x_HR r t, dm, n) ∧ (∀ k, k ≠ 7 → G k = g k) ∧ ∀ j, j < 60 → G 7 j = 0) := by
  have loop : ∀ p i G, i + p = 60 → (∀ k, k ≠ 7 → G k = g k) → (∀ j, j < i → G 7 j = 0) → x_J 94 d (fun q h' => q = none ∧ ∃ G, h' = (x_up (x_up f 6 2 s) 6 1 m, G, x_HR r t, dm, n) ∧ (∀ k, k ≠ 7 → G k = g k) ∧ ∀ j, j < 60 → G 7 j = 0) 12 [some (.ref 6), some (.int s), some (.int m), some (.int (nI i))] [] (x_up (x_up f 6 2 s) 6 1 m, G, x_HR r t, dm, n) 0 0 := by
    intro p
    induction p with
    | zero =>
      intro i G hi h1 h2
      obtain rfl : i = 60 := by omega
      refine x_wp_ok ok94 [12] 4 ?_
      refine And.intro (fun c => ?_) (fun c => ?_)
      · exact And.intro ⟨rfl, G, rfl, h1, h2⟩ ⟨trivial, Nat.le_refl _, Nat.le_refl _⟩
      · exact absurd (show nI 60 ≤ nI 60 by decide) c
    | succ p ih =>
      intro i G hi h1 h2
      refine x_wp_ok ok94 [12] 4 ?_
      refine And.intro (fun c => ?_) (fun c => ?_)
      · have c : nI 60 ≤ nI i := c
        rw [nI_leI (by decide) (by omega)] at c
        omega
      · refine And.intro (x_ix_nI (by omega) (by omega)) ?_
        rw [nI_clamp (by omega)]
        have e := ih (i + 1) (x_up G 7 i 0) (by omega) (fun k hk => by rw [x_up_k hk]; exact h1 k hk) (fun j hj => by
          by_cases e : j = i
          · subst e
            rw [x_up_s]
          · rw [x_up_j e]
            exact h2 j (by omega))
        rw [nI_succ i] at e
        exact e
  exact x_Ct_w (by decide) (Nat.le_of_ble_eq_true rfl) ok94 [12] 4 (loop 60 0 g (Nat.zero_add _) (fun _ _ => rfl) (fun j hj => by omega))
theorem c_put_2 {j : Nat} {w : Int64} (hj : j < 60) : x_Ct 95 d [.ref 6, .int (nI j), .long w] (f, g, x_HR r t, dm, n) (fun q h' => q = none ∧ h' = (f, x_up g 7 j (y_cut (f 6 2) w), x_HR r t, dm, n)) := by
  refine x_Ct_w (by decide) (Nat.le_of_ble_eq_true rfl) ok95 [] 10 ?_
  refine And.intro (fun c => ?_) (fun _ => ?_)
  · have c : nI j < nI 0 := c
    rw [nI_ltI (by omega) (by decide)] at c
    omega
  · refine And.intro (fun _ => ?_) (fun c => ?_)
    · refine And.intro (fun c0 => ?_) (fun c0 => ?_)
      · have c0 : ¬ f 6 2 = 0 := c0
        refine And.intro (fun c1 => ?_) (fun c1 => ?_)
        · have c1 : ¬ f 6 2 = 1 := c1
          refine And.intro (fun c2 => ?_) (fun c2 => ?_)
          · have c2 : ¬ f 6 2 = 2 := c2
            refine And.intro (x_ix_nI (by omega) (by omega)) ?_
            rw [nI_clamp (by omega)]
            exact And.intro ⟨rfl, by unfold y_cut; rw [if_neg c0, if_neg c1, if_neg c2]⟩ ⟨trivial, Nat.le_refl _, Nat.le_refl _⟩
          · have c2 : f 6 2 = 2 := c2
            refine And.intro (x_ix_nI (by omega) (by omega)) ?_
            rw [nI_clamp (by omega)]
            exact And.intro ⟨rfl, by unfold y_cut; rw [if_neg c0, if_neg c1, if_pos c2]⟩ ⟨trivial, Nat.le_refl _, Nat.le_refl _⟩
        · have c1 : f 6 2 = 1 := c1
          refine And.intro (x_ix_nI (by omega) (by omega)) ?_
          rw [nI_clamp (by omega)]
          exact And.intro ⟨rfl, by unfold y_cut; rw [if_neg c0, if_pos c1]⟩ ⟨trivial, Nat.le_refl _, Nat.le_refl _⟩
      · have c0 : f 6 2 = 0 := c0
        refine And.intro (x_ix_nI (by omega) (by omega)) ?_
        rw [nI_clamp (by omega)]
        exact And.intro ⟨rfl, by unfold y_cut; rw [if_pos c0]⟩ ⟨trivial, Nat.le_refl _, Nat.le_refl _⟩
    · have c : ¬ nI j < nI 60 := c
      rw [nI_ltI (by omega) (by decide)] at c
      omega
theorem c_wrongPlace_2 {y : Int32} (hT : x_TC f g T) : x_V 166 (d + 2) [.ref 0, .int (nI 2), .int y] (f, g, x_HR r t, dm, n) (.int (y_wp T (nI 2) y)) (f, g, x_HR r t, dm, n) := by
  have h1 := hT 2 (by decide)
  unfold y_wp
  rw [if_pos (by decide), show x_c (nI 2) = 2 from rfl]
  refine x_Ct_w (by decide) (Nat.le_of_ble_eq_true rfl) ok166 [] 8 ?_
  refine Exists.intro _ (And.intro c_isTray (And.intro (And.intro (Nat.zero_le _) (Nat.zero_le _)) (fun q h' hpo => ?_)))
  obtain ⟨rfl, rfl⟩ := hpo
  refine And.intro (fun _ => ?_) (fun c => absurd c (by decide))
  refine And.intro (x_ix_nI (by omega) (by omega)) ?_
  rw [nI_clamp (by omega)]
  refine Exists.intro _ (And.intro c_isMissing_2 (And.intro (And.intro (Nat.zero_le _) (Nat.zero_le _)) (fun q h' hpo => ?_)))
  obtain ⟨rfl, rfl⟩ := hpo
  cases ho : T.1 2 with
  | none =>
    rw [ho] at h1
    have h1 : f 6 1 = -1 := h1
    rw [decide_eq_true h1]
    refine And.intro (fun c => absurd c (by decide)) (fun _ => ?_)
    exact And.intro ⟨rfl, rfl⟩ ⟨trivial, Nat.le_refl _, Nat.le_refl _⟩
  | some c =>
    rw [ho] at h1
    obtain ⟨a1, a2, a3, a4, a5⟩ := h1
    have a1 : f 6 1 = nI c.2 := a1
    rw [decide_eq_false (by rw [a1]; exact x_nIm (by omega))]
    refine And.intro (fun _ => ?_) (fun c => absurd rfl c)
    dsimp only
    refine And.intro (fun c1 => ?_) (fun c1 => ?_)
    · have c1 : y < 0 := c1
      rw [x_lt, x_i0] at c1
      exact And.intro ⟨(by rw [if_neg (by simp only [x_ixb, Bool.and_eq_true, decide_eq_true_eq]; omega)]; rfl), rfl⟩ ⟨trivial, Nat.le_refl _, Nat.le_refl _⟩
    · have c1 : ¬ y < 0 := c1
      rw [x_lt, x_i0] at c1
      refine And.intro (x_ix_nI (by omega) (by omega)) ?_
      rw [nI_clamp (by omega)]
      refine And.intro (fun c2 => ?_) (fun c2 => ?_)
      · have c2 : y < f 6 1 := c2
        rw [a1, x_lt, nI_toInt (by omega)] at c2
        exact And.intro ⟨(by rw [if_pos (by simp only [x_ixb, Bool.and_eq_true, decide_eq_true_eq]; omega)]; rfl), rfl⟩ ⟨trivial, Nat.le_refl _, Nat.le_refl _⟩
      · have c2 : ¬ y < f 6 1 := c2
        rw [a1, x_lt, nI_toInt (by omega)] at c2
        exact And.intro ⟨(by rw [if_neg (by simp only [x_ixb, Bool.and_eq_true, decide_eq_true_eq]; omega)]; rfl), rfl⟩ ⟨trivial, Nat.le_refl _, Nat.le_refl _⟩
theorem c_wrongForKinds_2_12 {K : Nat} (hT : x_TC f g T) (hK : f 12 0 = nI K) (hK4 : K ≤ 4) : x_V 167 (d + 2) [.ref 0, .int (nI 2)] (f, g, x_HR 12 t, dm, n) (.int (match T.1 2 with | none => 2 | some c => if c.2 < K then 3 else 0)) (f, g, x_HR 12 t, dm, n) := by
  have h1 := hT 2 (by decide)
  refine x_Ct_w (by decide) (Nat.le_of_ble_eq_true rfl) ok167 [] 8 ?_
  refine Exists.intro _ (And.intro c_isTray (And.intro (And.intro (Nat.zero_le _) (Nat.zero_le _)) (fun q h' hpo => ?_)))
  obtain ⟨rfl, rfl⟩ := hpo
  refine And.intro (fun _ => ?_) (fun c => absurd c (by decide))
  refine And.intro (x_ix_nI (by omega) (by omega)) ?_
  rw [nI_clamp (by omega)]
  refine Exists.intro _ (And.intro c_isMissing_2 (And.intro (And.intro (Nat.zero_le _) (Nat.zero_le _)) (fun q h' hpo => ?_)))
  obtain ⟨rfl, rfl⟩ := hpo
  cases ho : T.1 2 with
  | none =>
    rw [ho] at h1
    have h1 : f 6 1 = -1 := h1
    rw [decide_eq_true h1]
    refine And.intro (fun c => absurd c (by decide)) (fun _ => ?_)
    exact And.intro ⟨rfl, rfl⟩ ⟨trivial, Nat.le_refl _, Nat.le_refl _⟩
  | some c =>
    rw [ho] at h1
    obtain ⟨a1, a2, a3, a4, a5⟩ := h1
    have a1 : f 6 1 = nI c.2 := a1
    rw [decide_eq_false (by rw [a1]; exact x_nIm (by omega))]
    refine And.intro (fun _ => ?_) (fun c => absurd rfl c)
    dsimp only
    refine And.intro (x_ix_nI (by omega) (by omega)) ?_
    rw [nI_clamp (by omega)]
    refine And.intro (fun c1 => ?_) (fun c1 => ?_)
    · have c1 : f 12 0 ≤ f 6 1 := c1
      rw [a1, hK, nI_leI (by omega) (by omega)] at c1
      exact And.intro ⟨(by rw [if_neg (by omega)]; rfl), rfl⟩ ⟨trivial, Nat.le_refl _, Nat.le_refl _⟩
    · have c1 : ¬ f 12 0 ≤ f 6 1 := c1
      rw [a1, hK, nI_leI (by omega) (by omega)] at c1
      exact And.intro ⟨(by rw [if_pos (by omega)]; rfl), rfl⟩ ⟨trivial, Nat.le_refl _, Nat.le_refl _⟩
theorem c_wrongForKinds_2_22 {K : Nat} (hT : x_TC f g T) (hK : f 22 0 = nI K) (hK4 : K ≤ 4) : x_V 167 (d + 2) [.ref 0, .int (nI 2)] (f, g, x_HR 22 t, dm, n) (.int (match T.1 2 with | none => 2 | some c => if c.2 < K then 3 else 0)) (f, g, x_HR 22 t, dm, n) := by
  have h1 := hT 2 (by decide)
  refine x_Ct_w (by decide) (Nat.le_of_ble_eq_true rfl) ok167 [] 8 ?_
  refine Exists.intro _ (And.intro c_isTray (And.intro (And.intro (Nat.zero_le _) (Nat.zero_le _)) (fun q h' hpo => ?_)))
  obtain ⟨rfl, rfl⟩ := hpo
  refine And.intro (fun _ => ?_) (fun c => absurd c (by decide))
  refine And.intro (x_ix_nI (by omega) (by omega)) ?_
  rw [nI_clamp (by omega)]
  refine Exists.intro _ (And.intro c_isMissing_2 (And.intro (And.intro (Nat.zero_le _) (Nat.zero_le _)) (fun q h' hpo => ?_)))
  obtain ⟨rfl, rfl⟩ := hpo
  cases ho : T.1 2 with
  | none =>
    rw [ho] at h1
    have h1 : f 6 1 = -1 := h1
    rw [decide_eq_true h1]
    refine And.intro (fun c => absurd c (by decide)) (fun _ => ?_)
    exact And.intro ⟨rfl, rfl⟩ ⟨trivial, Nat.le_refl _, Nat.le_refl _⟩
  | some c =>
    rw [ho] at h1
    obtain ⟨a1, a2, a3, a4, a5⟩ := h1
    have a1 : f 6 1 = nI c.2 := a1
    rw [decide_eq_false (by rw [a1]; exact x_nIm (by omega))]
    refine And.intro (fun _ => ?_) (fun c => absurd rfl c)
    dsimp only
    refine And.intro (x_ix_nI (by omega) (by omega)) ?_
    rw [nI_clamp (by omega)]
    refine And.intro (fun c1 => ?_) (fun c1 => ?_)
    · have c1 : f 22 0 ≤ f 6 1 := c1
      rw [a1, hK, nI_leI (by omega) (by omega)] at c1
      exact And.intro ⟨(by rw [if_neg (by omega)]; rfl), rfl⟩ ⟨trivial, Nat.le_refl _, Nat.le_refl _⟩
    · have c1 : ¬ f 22 0 ≤ f 6 1 := c1
      rw [a1, hK, nI_leI (by omega) (by omega)] at c1
      exact And.intro ⟨(by rw [if_pos (by omega)]; rfl), rfl⟩ ⟨trivial, Nat.le_refl _, Nat.le_refl _⟩
theorem c_tray_2 {y z : Int32} (hT : x_TC f g T) : x_Ct 100 (d + 2) [.ref 0, .int (nI 2), .int y, .int z] (f, g, x_HR r t, dm, n) (x_QT f g (x_HR r t) dm n (st_tray T (nI 2) y z)) := by
  unfold st_tray
  refine x_Ct_w (by decide) (Nat.le_of_ble_eq_true rfl) ok100 [] 8 ?_
  refine Exists.intro _ (And.intro c_isTray (And.intro (And.intro (Nat.zero_le _) (Nat.zero_le _)) (fun q h' hpo => ?_)))
  obtain ⟨rfl, rfl⟩ := hpo
  refine And.intro (fun c => absurd c (by decide)) (fun _ => ?_)
  refine Exists.intro _ (And.intro (c_within (x := y) (lo := 0) (hi := 3)) (And.intro (And.intro (Nat.zero_le _) (Nat.zero_le _)) (fun q h' hpo => ?_)))
  obtain ⟨rfl, rfl⟩ := hpo
  cases hy : x_wi y 0 3 with
  | false =>
    rw [Bool.false_and, Bool.and_false, if_neg (by decide)]
    refine And.intro (fun _ => ?_) (fun c => absurd rfl c)
    refine Exists.intro _ (And.intro c_refused (And.intro (And.intro (Nat.zero_le _) (Nat.zero_le _)) (fun q h' hpo => ?_)))
    obtain ⟨rfl, rfl⟩ := hpo
    refine And.intro ?_ ⟨Or.inl rfl, Nat.le_refl _, Nat.le_refl _⟩
    exact x_QT_0 hT
  | true =>
    refine And.intro (fun c => absurd c (by decide)) (fun _ => ?_)
    refine Exists.intro _ (And.intro (c_within (x := z) (lo := 0) (hi := 60)) (And.intro (And.intro (Nat.zero_le _) (Nat.zero_le _)) (fun q h' hpo => ?_)))
    obtain ⟨rfl, rfl⟩ := hpo
    cases hz : x_wi z 0 60 with
    | false =>
      rw [Bool.and_false, Bool.and_false, if_neg (by decide)]
      refine And.intro (fun c => absurd rfl c) (fun _ => ?_)
      refine Exists.intro _ (And.intro c_refused (And.intro (And.intro (Nat.zero_le _) (Nat.zero_le _)) (fun q h' hpo => ?_)))
      obtain ⟨rfl, rfl⟩ := hpo
      refine And.intro ?_ ⟨Or.inl rfl, Nat.le_refl _, Nat.le_refl _⟩
      exact x_QT_0 hT
    | true =>
      refine And.intro (fun _ => ?_) (fun c => absurd c (by decide))
      rw [if_pos (show (x_wi (nI 2) 0 3 && (true && true)) = true by decide), show x_c (nI 2) = 2 from rfl]
      obtain ⟨s, hs1, hs, rfl⟩ := x_wi_t (lo := 0) (hi := 3) hy (by decide) (by decide)
      obtain ⟨m, hm1, hm, rfl⟩ := x_wi_t (lo := 0) (hi := 60) hz (by decide) (by decide)
      rw [x_c, x_c, nI_clamp (by omega), nI_clamp (by omega)]
      refine And.intro (x_ix_nI (by omega) (by omega)) ?_
      rw [nI_clamp (by omega)]
      refine Exists.intro _ (And.intro c_begin_2 (And.intro (And.intro (Nat.zero_le _) (Nat.zero_le _)) (fun q h' hpo => ?_)))
      obtain ⟨rfl, G, rfl, g1, g2⟩ := hpo
      refine Exists.intro _ (And.intro c_agreed (And.intro (And.intro (Nat.zero_le _) (Nat.zero_le _)) (fun q h' hpo => ?_)))
      obtain ⟨rfl, rfl⟩ := hpo
      refine And.intro ?_ ⟨Or.inr rfl, Nat.le_refl _, Nat.le_refl _⟩
      refine x_QT_S (x_TC_set (F := x_up (x_up f 6 2 (nI s)) 6 1 (nI m)) (G := G) (i := 2) (c := some (s, m)) (u := fun _ => 0) hT (fun k hk => ?_) (fun k hk => g1 k hk) ⟨x_up_s _ _ _ _, (x_up_j (by decide)).trans (x_up_s _ _ _ _), hs, hm, fun j hj => g2 j (Nat.lt_of_lt_of_le hj hm)⟩) (fun k hk => ?_) (fun k hk => g1 k (by omega))
      · rw [x_up_k hk, x_up_k hk]
      · rw [x_up_k (by omega), x_up_k (by omega)]
theorem c_write_2 {y : Int32} {w : Int64} (hT : x_TC f g T) : x_Ct 101 (d + 3) [.ref 0, .int (nI 2), .int y, .long w] (f, g, x_HR r t, dm, n) (x_QT f g (x_HR r t) dm n (st_write T (nI 2) y w)) := by
  have h1 := hT 2 (by decide)
  unfold st_write
  refine x_Ct_w (by decide) (Nat.le_of_ble_eq_true rfl) ok101 [] 8 ?_
  refine Exists.intro _ (And.intro (c_wrongPlace_2 hT) (And.intro (And.intro (Nat.zero_le _) (Nat.zero_le _)) (fun q h' hpo => ?_)))
  obtain ⟨rfl, rfl⟩ := hpo
  by_cases hw : y_wp T (nI 2) y = 0
  · rw [if_pos hw, hw]
    refine And.intro (fun _ => ?_) (fun c => absurd rfl c)
    unfold y_wp at hw
    rw [if_pos (by decide), show x_c (nI 2) = 2 from rfl] at hw
    cases ho : T.1 2 with
    | none =>
      rw [ho] at hw
      exact absurd (show (2 : Int32) = 0 from hw) (by decide)
    | some c =>
      rw [ho] at hw h1
      dsimp only at hw
      by_cases hx : x_ixb y c.2 = true
      · obtain ⟨a1, a2, a3, a4, a5⟩ := h1
        have a1 : f 6 1 = nI c.2 := a1
        have a2 : f 6 2 = nI c.1 := a2
        obtain ⟨j, hj, rfl⟩ := x_ixb_t hx (by omega)
        rw [show x_c (nI 2) = 2 from rfl, x_c, nI_clamp (by omega), ho, show y_so T 2 = c.1 by unfold y_so; rw [ho]]
        refine And.intro (x_ix_nI (by omega) (by omega)) ?_
        rw [nI_clamp (by omega)]
        refine Exists.intro _ (And.intro (c_put_2 (show j < 60 by omega)) (And.intro (And.intro (Nat.zero_le _) (Nat.zero_le _)) (fun q h' hpo => ?_)))
        obtain ⟨rfl, rfl⟩ := hpo
        refine Exists.intro _ (And.intro c_agreed (And.intro (And.intro (Nat.zero_le _) (Nat.zero_le _)) (fun q h' hpo => ?_)))
        obtain ⟨rfl, rfl⟩ := hpo
        refine And.intro ?_ ⟨Or.inr rfl, Nat.le_refl _, Nat.le_refl _⟩
        rw [← a2]
        refine x_QT_S (x_TC_set (F := f) (G := x_up g 7 j (y_cut (f 6 2) w)) (i := 2) (c := some c) (u := va_up (T.2 2) j (y_cut (f 6 2) w)) hT (fun _ _ => rfl) (fun k hk => x_up_k hk) ⟨a1, a2, a3, a4, fun k hk => ?_⟩) (fun _ _ => rfl) (fun k hk => x_up_k (by omega))
        by_cases e : k = j
        · subst e
          rw [x_us]
          exact x_up_s _ _ _ _
        · rw [x_un e]
          exact (x_up_j e).trans (a5 k hk)
      · rw [if_neg hx] at hw
        exact absurd hw (by decide)
  · rw [if_neg hw]
    refine And.intro (fun c => absurd c hw) (fun _ => ?_)
    refine Exists.intro _ (And.intro c_refused (And.intro (And.intro (Nat.zero_le _) (Nat.zero_le _)) (fun q h' hpo => ?_)))
    obtain ⟨rfl, rfl⟩ := hpo
    refine And.intro ?_ ⟨Or.inl rfl, Nat.le_refl _, Nat.le_refl _⟩
    exact x_QT_0 hT
theorem c_read_2 {y : Int32} (hT : x_TC f g T) : x_Ct 102 (d + 3) [.ref 0, .int (nI 2), .int y] (f, g, x_HR r t, dm, n) (x_QT f g (x_HR r t) dm n (st_read T (nI 2) y)) := by
  have h1 := hT 2 (by decide)
  unfold st_read
  refine x_Ct_w (by decide) (Nat.le_of_ble_eq_true rfl) ok102 [] 8 ?_
  refine Exists.intro _ (And.intro (c_wrongPlace_2 hT) (And.intro (And.intro (Nat.zero_le _) (Nat.zero_le _)) (fun q h' hpo => ?_)))
  obtain ⟨rfl, rfl⟩ := hpo
  by_cases hw : y_wp T (nI 2) y = 0
  · rw [if_pos hw, hw]
    refine And.intro (fun _ => ?_) (fun c => absurd rfl c)
    unfold y_wp at hw
    rw [if_pos (by decide), show x_c (nI 2) = 2 from rfl] at hw
    cases ho : T.1 2 with
    | none =>
      rw [ho] at hw
      exact absurd (show (2 : Int32) = 0 from hw) (by decide)
    | some c =>
      rw [ho] at hw h1
      dsimp only at hw
      by_cases hx : x_ixb y c.2 = true
      · obtain ⟨a1, a2, a3, a4, a5⟩ := h1
        obtain ⟨j, hj, rfl⟩ := x_ixb_t hx (by omega)
        rw [show x_c (nI 2) = 2 from rfl, x_c, nI_clamp (by omega)]
        refine And.intro (x_ix_nI (by omega) (by omega)) ?_
        rw [nI_clamp (by omega)]
        refine And.intro (x_ix_nI (by omega) (by omega)) ?_
        rw [nI_clamp (by omega)]
        refine And.intro ?_ ⟨trivial, Nat.le_refl _, Nat.le_refl _⟩
        rw [show T.2 2 j = g 7 j from (a5 j hj).symm]
        exact x_QT_0 hT
      · rw [if_neg hx] at hw
        exact absurd hw (by decide)
  · rw [if_neg hw]
    refine And.intro (fun c => absurd c hw) (fun _ => ?_)
    refine Exists.intro _ (And.intro c_refuse (And.intro (And.intro (Nat.zero_le _) (Nat.zero_le _)) (fun q h' hpo => ?_)))
    obtain ⟨rfl, rfl⟩ := hpo
    refine And.intro ?_ ⟨trivial, Nat.le_refl _, Nat.le_refl _⟩
    exact x_QT_0 hT
theorem c_isMissing_3 : x_V 93 d [.ref 8] (f, g, ρ, dm, n) (.int (x_bo (decide (f 8 1 = -1)))) (f, g, ρ, dm, n) := by
  refine x_Ct_w (by decide) (Nat.le_of_ble_eq_true rfl) ok93 [] 4 ?_
  refine And.intro (fun c => ?_) (fun c => ?_)
  · have c : ¬ f 8 1 = -1 := c
    exact And.intro ⟨(by rw [decide_eq_false c]; rfl), rfl⟩ ⟨Or.inl rfl, Nat.le_refl _, Nat.le_refl _⟩
  · have c : f 8 1 = -1 := c
    exact And.intro ⟨(by rw [decide_eq_true c]; rfl), rfl⟩ ⟨Or.inr rfl, Nat.le_refl _, Nat.le_refl _⟩
theorem c_begin_3 {s m : Int32} : x_Ct 94 d [.ref 8, .int s, .int m] (f, g, x_HR r t, dm, n) (fun q h' => q = none ∧ ∃ G, h' = (x_up (x_up f 8 2 s) 8 1 m, G, x_HR r t, dm, n) ∧ (∀ k, k ≠ 9 → G k = g k) ∧ ∀ j, j < 60 → G 9 j = 0) := by
  have loop : ∀ p i G, i + p = 60 → (∀ k, k ≠ 9 → G k = g k) → (∀ j, j < i → G 9 j = 0) → x_J 94 d (fun q h' => q = none ∧ ∃ G, h' = (x_up (x_up f 8 2 s) 8 1 m, G, x_HR r t, dm, n) ∧ (∀ k, k ≠ 9 → G k = g k) ∧ ∀ j, j < 60 → G 9 j = 0) 12 [some (.ref 8), some (.int s), some (.int m), some (.int (nI i))] [] (x_up (x_up f 8 2 s) 8 1 m, G, x_HR r t, dm, n) 0 0 := by
    intro p
    induction p with
    | zero =>
      intro i G hi h1 h2
      obtain rfl : i = 60 := by omega
      refine x_wp_ok ok94 [12] 4 ?_
      refine And.intro (fun c => ?_) (fun c => ?_)
      · exact And.intro ⟨rfl, G, rfl, h1, h2⟩ ⟨trivial, Nat.le_refl _, Nat.le_refl _⟩
      · exact absurd (show nI 60 ≤ nI 60 by decide) c
    | succ p ih =>
      intro i G hi h1 h2
      refine x_wp_ok ok94 [12] 4 ?_
      refine And.intro (fun c => ?_) (fun c => ?_)
      · have c : nI 60 ≤ nI i := c
        rw [nI_leI (by decide) (by omega)] at c
        omega
      · refine And.intro (x_ix_nI (by omega) (by omega)) ?_
        rw [nI_clamp (by omega)]
        have e := ih (i + 1) (x_up G 9 i 0) (by omega) (fun k hk => by rw [x_up_k hk]; exact h1 k hk) (fun j hj => by
          by_cases e : j = i
          · subst e
            rw [x_up_s]
          · rw [x_up_j e]
            exact h2 j (by omega))
        rw [nI_succ i] at e
        exact e
  exact x_Ct_w (by decide) (Nat.le_of_ble_eq_true rfl) ok94 [12] 4 (loop 60 0 g (Nat.zero_add _) (fun _ _ => rfl) (fun j hj => by omega))
theorem c_put_3 {j : Nat} {w : Int64} (hj : j < 60) : x_Ct 95 d [.ref 8, .int (nI j), .long w] (f, g, x_HR r t, dm, n) (fun q h' => q = none ∧ h' = (f, x_up g 9 j (y_cut (f 8 2) w), x_HR r t, dm, n)) := by
  refine x_Ct_w (by decide) (Nat.le_of_ble_eq_true rfl) ok95 [] 10 ?_
  refine And.intro (fun c => ?_) (fun _ => ?_)
  · have c : nI j < nI 0 := c
    rw [nI_ltI (by omega) (by decide)] at c
    omega
  · refine And.intro (fun _ => ?_) (fun c => ?_)
    · refine And.intro (fun c0 => ?_) (fun c0 => ?_)
      · have c0 : ¬ f 8 2 = 0 := c0
        refine And.intro (fun c1 => ?_) (fun c1 => ?_)
        · have c1 : ¬ f 8 2 = 1 := c1
          refine And.intro (fun c2 => ?_) (fun c2 => ?_)
          · have c2 : ¬ f 8 2 = 2 := c2
            refine And.intro (x_ix_nI (by omega) (by omega)) ?_
            rw [nI_clamp (by omega)]
            exact And.intro ⟨rfl, by unfold y_cut; rw [if_neg c0, if_neg c1, if_neg c2]⟩ ⟨trivial, Nat.le_refl _, Nat.le_refl _⟩
          · have c2 : f 8 2 = 2 := c2
            refine And.intro (x_ix_nI (by omega) (by omega)) ?_
            rw [nI_clamp (by omega)]
            exact And.intro ⟨rfl, by unfold y_cut; rw [if_neg c0, if_neg c1, if_pos c2]⟩ ⟨trivial, Nat.le_refl _, Nat.le_refl _⟩
        · have c1 : f 8 2 = 1 := c1
          refine And.intro (x_ix_nI (by omega) (by omega)) ?_
          rw [nI_clamp (by omega)]
          exact And.intro ⟨rfl, by unfold y_cut; rw [if_neg c0, if_pos c1]⟩ ⟨trivial, Nat.le_refl _, Nat.le_refl _⟩
      · have c0 : f 8 2 = 0 := c0
        refine And.intro (x_ix_nI (by omega) (by omega)) ?_
        rw [nI_clamp (by omega)]
        exact And.intro ⟨rfl, by unfold y_cut; rw [if_pos c0]⟩ ⟨trivial, Nat.le_refl _, Nat.le_refl _⟩
    · have c : ¬ nI j < nI 60 := c
      rw [nI_ltI (by omega) (by decide)] at c
      omega
theorem c_wrongPlace_3 {y : Int32} (hT : x_TC f g T) : x_V 166 (d + 2) [.ref 0, .int (nI 3), .int y] (f, g, x_HR r t, dm, n) (.int (y_wp T (nI 3) y)) (f, g, x_HR r t, dm, n) := by
  have h1 := hT 3 (by decide)
  unfold y_wp
  rw [if_pos (by decide), show x_c (nI 3) = 3 from rfl]
  refine x_Ct_w (by decide) (Nat.le_of_ble_eq_true rfl) ok166 [] 8 ?_
  refine Exists.intro _ (And.intro c_isTray (And.intro (And.intro (Nat.zero_le _) (Nat.zero_le _)) (fun q h' hpo => ?_)))
  obtain ⟨rfl, rfl⟩ := hpo
  refine And.intro (fun _ => ?_) (fun c => absurd c (by decide))
  refine And.intro (x_ix_nI (by omega) (by omega)) ?_
  rw [nI_clamp (by omega)]
  refine Exists.intro _ (And.intro c_isMissing_3 (And.intro (And.intro (Nat.zero_le _) (Nat.zero_le _)) (fun q h' hpo => ?_)))
  obtain ⟨rfl, rfl⟩ := hpo
  cases ho : T.1 3 with
  | none =>
    rw [ho] at h1
    have h1 : f 8 1 = -1 := h1
    rw [decide_eq_true h1]
    refine And.intro (fun c => absurd c (by decide)) (fun _ => ?_)
    exact And.intro ⟨rfl, rfl⟩ ⟨trivial, Nat.le_refl _, Nat.le_refl _⟩
  | some c =>
    rw [ho] at h1
    obtain ⟨a1, a2, a3, a4, a5⟩ := h1
    have a1 : f 8 1 = nI c.2 := a1
    rw [decide_eq_false (by rw [a1]; exact x_nIm (by omega))]
    refine And.intro (fun _ => ?_) (fun c => absurd rfl c)
    dsimp only
    refine And.intro (fun c1 => ?_) (fun c1 => ?_)
    · have c1 : y < 0 := c1
      rw [x_lt, x_i0] at c1
      exact And.intro ⟨(by rw [if_neg (by simp only [x_ixb, Bool.and_eq_true, decide_eq_true_eq]; omega)]; rfl), rfl⟩ ⟨trivial, Nat.le_refl _, Nat.le_refl _⟩
    · have c1 : ¬ y < 0 := c1
      rw [x_lt, x_i0] at c1
      refine And.intro (x_ix_nI (by omega) (by omega)) ?_
      rw [nI_clamp (by omega)]
      refine And.intro (fun c2 => ?_) (fun c2 => ?_)
      · have c2 : y < f 8 1 := c2
        rw [a1, x_lt, nI_toInt (by omega)] at c2
        exact And.intro ⟨(by rw [if_pos (by simp only [x_ixb, Bool.and_eq_true, decide_eq_true_eq]; omega)]; rfl), rfl⟩ ⟨trivial, Nat.le_refl _, Nat.le_refl _⟩
      · have c2 : ¬ y < f 8 1 := c2
        rw [a1, x_lt, nI_toInt (by omega)] at c2
        exact And.intro ⟨(by rw [if_neg (by simp only [x_ixb, Bool.and_eq_true, decide_eq_true_eq]; omega)]; rfl), rfl⟩ ⟨trivial, Nat.le_refl _, Nat.le_refl _⟩
theorem c_wrongForKinds_3_12 {K : Nat} (hT : x_TC f g T) (hK : f 12 0 = nI K) (hK4 : K ≤ 4) : x_V 167 (d + 2) [.ref 0, .int (nI 3)] (f, g, x_HR 12 t, dm, n) (.int (match T.1 3 with | none => 2 | some c => if c.2 < K then 3 else 0)) (f, g, x_HR 12 t, dm, n) := by
  have h1 := hT 3 (by decide)
  refine x_Ct_w (by decide) (Nat.le_of_ble_eq_true rfl) ok167 [] 8 ?_
  refine Exists.intro _ (And.intro c_isTray (And.intro (And.intro (Nat.zero_le _) (Nat.zero_le _)) (fun q h' hpo => ?_)))
  obtain ⟨rfl, rfl⟩ := hpo
  refine And.intro (fun _ => ?_) (fun c => absurd c (by decide))
  refine And.intro (x_ix_nI (by omega) (by omega)) ?_
  rw [nI_clamp (by omega)]
  refine Exists.intro _ (And.intro c_isMissing_3 (And.intro (And.intro (Nat.zero_le _) (Nat.zero_le _)) (fun q h' hpo => ?_)))
  obtain ⟨rfl, rfl⟩ := hpo
  cases ho : T.1 3 with
  | none =>
    rw [ho] at h1
    have h1 : f 8 1 = -1 := h1
    rw [decide_eq_true h1]
    refine And.intro (fun c => absurd c (by decide)) (fun _ => ?_)
    exact And.intro ⟨rfl, rfl⟩ ⟨trivial, Nat.le_refl _, Nat.le_refl _⟩
  | some c =>
    rw [ho] at h1
    obtain ⟨a1, a2, a3, a4, a5⟩ := h1
    have a1 : f 8 1 = nI c.2 := a1
    rw [decide_eq_false (by rw [a1]; exact x_nIm (by omega))]
    refine And.intro (fun _ => ?_) (fun c => absurd rfl c)
    dsimp only
    refine And.intro (x_ix_nI (by omega) (by omega)) ?_
    rw [nI_clamp (by omega)]
    refine And.intro (fun c1 => ?_) (fun c1 => ?_)
    · have c1 : f 12 0 ≤ f 8 1 := c1
      rw [a1, hK, nI_leI (by omega) (by omega)] at c1
      exact And.intro ⟨(by rw [if_neg (by omega)]; rfl), rfl⟩ ⟨trivial, Nat.le_refl _, Nat.le_refl _⟩
    · have c1 : ¬ f 12 0 ≤ f 8 1 := c1
      rw [a1, hK, nI_leI (by omega) (by omega)] at c1
      exact And.intro ⟨(by rw [if_pos (by omega)]; rfl), rfl⟩ ⟨trivial, Nat.le_refl _, Nat.le_refl _⟩
theorem c_wrongForKinds_3_22 {K : Nat} (hT : x_TC f g T) (hK : f 22 0 = nI K) (hK4 : K ≤ 4) : x_V 167 (d + 2) [.ref 0, .int (nI 3)] (f, g, x_HR 22 t, dm, n) (.int (match T.1 3 with | none => 2 | some c => if c.2 < K then 3 else 0)) (f, g, x_HR 22 t, dm, n) := by
  have h1 := hT 3 (by decide)
  refine x_Ct_w (by decide) (Nat.le_of_ble_eq_true rfl) ok167 [] 8 ?_
  refine Exists.intro _ (And.intro c_isTray (And.intro (And.intro (Nat.zero_le _) (Nat.zero_le _)) (fun q h' hpo => ?_)))
  obtain ⟨rfl, rfl⟩ := hpo
  refine And.intro (fun _ => ?_) (fun c => absurd c (by decide))
  refine And.intro (x_ix_nI (by omega) (by omega)) ?_
  rw [nI_clamp (by omega)]
  refine Exists.intro _ (And.intro c_isMissing_3 (And.intro (And.intro (Nat.zero_le _) (Nat.zero_le _)) (fun q h' hpo => ?_)))
  obtain ⟨rfl, rfl⟩ := hpo
  cases ho : T.1 3 with
  | none =>
    rw [ho] at h1
    have h1 : f 8 1 = -1 := h1
    rw [decide_eq_true h1]
    refine And.intro (fun c => absurd c (by decide)) (fun _ => ?_)
    exact And.intro ⟨rfl, rfl⟩ ⟨trivial, Nat.le_refl _, Nat.le_refl _⟩
  | some c =>
    rw [ho] at h1
    obtain ⟨a1, a2, a3, a4, a5⟩ := h1
    have a1 : f 8 1 = nI c.2 := a1
    rw [decide_eq_false (by rw [a1]; exact x_nIm (by omega))]
    refine And.intro (fun _ => ?_) (fun c => absurd rfl c)
    dsimp only
    refine And.intro (x_ix_nI (by omega) (by omega)) ?_
    rw [nI_clamp (by omega)]
    refine And.intro (fun c1 => ?_) (fun c1 => ?_)
    · have c1 : f 22 0 ≤ f 8 1 := c1
      rw [a1, hK, nI_leI (by omega) (by omega)] at c1
      exact And.intro ⟨(by rw [if_neg (by omega)]; rfl), rfl⟩ ⟨trivial, Nat.le_refl _, Nat.le_refl _⟩
    · have c1 : ¬ f 22 0 ≤ f 8 1 := c1
      rw [a1, hK, nI_leI (by omega) (by omega)] at c1
      exact And.intro ⟨(by rw [if_pos (by omega)]; rfl), rfl⟩ ⟨trivial, Nat.le_refl _, Nat.le_refl _⟩
theorem c_tray_3 {y z : Int32} (hT : x_TC f g T) : x_Ct 100 (d + 2) [.ref 0, .int (nI 3), .int y, .int z] (f, g, x_HR r t, dm, n) (x_QT f g (x_HR r t) dm n (st_tray T (nI 3) y z)) := by
  unfold st_tray
  refine x_Ct_w (by decide) (Nat.le_of_ble_eq_true rfl) ok100 [] 8 ?_
  refine Exists.intro _ (And.intro c_isTray (And.intro (And.intro (Nat.zero_le _) (Nat.zero_le _)) (fun q h' hpo => ?_)))
  obtain ⟨rfl, rfl⟩ := hpo
  refine And.intro (fun c => absurd c (by decide)) (fun _ => ?_)
  refine Exists.intro _ (And.intro (c_within (x := y) (lo := 0) (hi := 3)) (And.intro (And.intro (Nat.zero_le _) (Nat.zero_le _)) (fun q h' hpo => ?_)))
  obtain ⟨rfl, rfl⟩ := hpo
  cases hy : x_wi y 0 3 with
  | false =>
    rw [Bool.false_and, Bool.and_false, if_neg (by decide)]
    refine And.intro (fun _ => ?_) (fun c => absurd rfl c)
    refine Exists.intro _ (And.intro c_refused (And.intro (And.intro (Nat.zero_le _) (Nat.zero_le _)) (fun q h' hpo => ?_)))
    obtain ⟨rfl, rfl⟩ := hpo
    refine And.intro ?_ ⟨Or.inl rfl, Nat.le_refl _, Nat.le_refl _⟩
    exact x_QT_0 hT
  | true =>
    refine And.intro (fun c => absurd c (by decide)) (fun _ => ?_)
    refine Exists.intro _ (And.intro (c_within (x := z) (lo := 0) (hi := 60)) (And.intro (And.intro (Nat.zero_le _) (Nat.zero_le _)) (fun q h' hpo => ?_)))
    obtain ⟨rfl, rfl⟩ := hpo
    cases hz : x_wi z 0 60 with
    | false =>
      rw [Bool.and_false, Bool.and_false, if_neg (by decide)]
      refine And.intro (fun c => absurd rfl c) (fun _ => ?_)
      refine Exists.intro _ (And.intro c_refused (And.intro (And.intro (Nat.zero_le _) (Nat.zero_le _)) (fun q h' hpo => ?_)))
      obtain ⟨rfl, rfl⟩ := hpo
      refine And.intro ?_ ⟨Or.inl rfl, Nat.le_refl _, Nat.le_refl _⟩
      exact x_QT_0 hT
    | true =>
      refine And.intro (fun _ => ?_) (fun c => absurd c (by decide))
      rw [if_pos (show (x_wi (nI 3) 0 3 && (true && true)) = true by decide), show x_c (nI 3) = 3 from rfl]
      obtain ⟨s, hs1, hs, rfl⟩ := x_wi_t (lo := 0) (hi := 3) hy (by decide) (by decide)
      obtain ⟨m, hm1, hm, rfl⟩ := x_wi_t (lo := 0) (hi := 60) hz (by decide) (by decide)
      rw [x_c, x_c, nI_clamp (by omega), nI_clamp (by omega)]
      refine And.intro (x_ix_nI (by omega) (by omega)) ?_
      rw [nI_clamp (by omega)]
      refine Exists.intro _ (And.intro c_begin_3 (And.intro (And.intro (Nat.zero_le _) (Nat.zero_le _)) (fun q h' hpo => ?_)))
      obtain ⟨rfl, G, rfl, g1, g2⟩ := hpo
      refine Exists.intro _ (And.intro c_agreed (And.intro (And.intro (Nat.zero_le _) (Nat.zero_le _)) (fun q h' hpo => ?_)))
      obtain ⟨rfl, rfl⟩ := hpo
      refine And.intro ?_ ⟨Or.inr rfl, Nat.le_refl _, Nat.le_refl _⟩
      refine x_QT_S (x_TC_set (F := x_up (x_up f 8 2 (nI s)) 8 1 (nI m)) (G := G) (i := 3) (c := some (s, m)) (u := fun _ => 0) hT (fun k hk => ?_) (fun k hk => g1 k hk) ⟨x_up_s _ _ _ _, (x_up_j (by decide)).trans (x_up_s _ _ _ _), hs, hm, fun j hj => g2 j (Nat.lt_of_lt_of_le hj hm)⟩) (fun k hk => ?_) (fun k hk => g1 k (by omega))
      · rw [x_up_k hk, x_up_k hk]
      · rw [x_up_k (by omega), x_up_k (by omega)]
theorem c_write_3 {y : Int32} {w : Int64} (hT : x_TC f g T) : x_Ct 101 (d + 3) [.ref 0, .int (nI 3), .int y, .long w] (f, g, x_HR r t, dm, n) (x_QT f g (x_HR r t) dm n (st_write T (nI 3) y w)) := by
  have h1 := hT 3 (by decide)
  unfold st_write
  refine x_Ct_w (by decide) (Nat.le_of_ble_eq_true rfl) ok101 [] 8 ?_
  refine Exists.intro _ (And.intro (c_wrongPlace_3 hT) (And.intro (And.intro (Nat.zero_le _) (Nat.zero_le _)) (fun q h' hpo => ?_)))
  obtain ⟨rfl, rfl⟩ := hpo
  by_cases hw : y_wp T (nI 3) y = 0
  · rw [if_pos hw, hw]
    refine And.intro (fun _ => ?_) (fun c => absurd rfl c)
    unfold y_wp at hw
    rw [if_pos (by decide), show x_c (nI 3) = 3 from rfl] at hw
    cases ho : T.1 3 with
    | none =>
      rw [ho] at hw
      exact absurd (show (2 : Int32) = 0 from hw) (by decide)
    | some c =>
      rw [ho] at hw h1
      dsimp only at hw
      by_cases hx : x_ixb y c.2 = true
      · obtain ⟨a1, a2, a3, a4, a5⟩ := h1
        have a1 : f 8 1 = nI c.2 := a1
        have a2 : f 8 2 = nI c.1 := a2
        obtain ⟨j, hj, rfl⟩ := x_ixb_t hx (by omega)
        rw [show x_c (nI 3) = 3 from rfl, x_c, nI_clamp (by omega), ho, show y_so T 3 = c.1 by unfold y_so; rw [ho]]
        refine And.intro (x_ix_nI (by omega) (by omega)) ?_
        rw [nI_clamp (by omega)]
        refine Exists.intro _ (And.intro (c_put_3 (show j < 60 by omega)) (And.intro (And.intro (Nat.zero_le _) (Nat.zero_le _)) (fun q h' hpo => ?_)))
        obtain ⟨rfl, rfl⟩ := hpo
        refine Exists.intro _ (And.intro c_agreed (And.intro (And.intro (Nat.zero_le _) (Nat.zero_le _)) (fun q h' hpo => ?_)))
        obtain ⟨rfl, rfl⟩ := hpo
        refine And.intro ?_ ⟨Or.inr rfl, Nat.le_refl _, Nat.le_refl _⟩
        rw [← a2]
        refine x_QT_S (x_TC_set (F := f) (G := x_up g 9 j (y_cut (f 8 2) w)) (i := 3) (c := some c) (u := va_up (T.2 3) j (y_cut (f 8 2) w)) hT (fun _ _ => rfl) (fun k hk => x_up_k hk) ⟨a1, a2, a3, a4, fun k hk => ?_⟩) (fun _ _ => rfl) (fun k hk => x_up_k (by omega))
        by_cases e : k = j
        · subst e
          rw [x_us]
          exact x_up_s _ _ _ _
        · rw [x_un e]
          exact (x_up_j e).trans (a5 k hk)
      · rw [if_neg hx] at hw
        exact absurd hw (by decide)
  · rw [if_neg hw]
    refine And.intro (fun c => absurd c hw) (fun _ => ?_)
    refine Exists.intro _ (And.intro c_refused (And.intro (And.intro (Nat.zero_le _) (Nat.zero_le _)) (fun q h' hpo => ?_)))
    obtain ⟨rfl, rfl⟩ := hpo
    refine And.intro ?_ ⟨Or.inl rfl, Nat.le_refl _, Nat.le_refl _⟩
    exact x_QT_0 hT
theorem c_read_3 {y : Int32} (hT : x_TC f g T) : x_Ct 102 (d + 3) [.ref 0, .int (nI 3), .int y] (f, g, x_HR r t, dm, n) (x_QT f g (x_HR r t) dm n (st_read T (nI 3) y)) := by
  have h1 := hT 3 (by decide)
  unfold st_read
  refine x_Ct_w (by decide) (Nat.le_of_ble_eq_true rfl) ok102 [] 8 ?_
  refine Exists.intro _ (And.intro (c_wrongPlace_3 hT) (And.intro (And.intro (Nat.zero_le _) (Nat.zero_le _)) (fun q h' hpo => ?_)))
  obtain ⟨rfl, rfl⟩ := hpo
  by_cases hw : y_wp T (nI 3) y = 0
  · rw [if_pos hw, hw]
    refine And.intro (fun _ => ?_) (fun c => absurd rfl c)
    unfold y_wp at hw
    rw [if_pos (by decide), show x_c (nI 3) = 3 from rfl] at hw
    cases ho : T.1 3 with
    | none =>
      rw [ho] at hw
      exact absurd (show (2 : Int32) = 0 from hw) (by decide)
    | some c =>
      rw [ho] at hw h1
      dsimp only at hw
      by_cases hx : x_ixb y c.2 = true
      · obtain ⟨a1, a2, a3, a4, a5⟩ := h1
        obtain ⟨j, hj, rfl⟩ := x_ixb_t hx (by omega)
        rw [show x_c (nI 3) = 3 from rfl, x_c, nI_clamp (by omega)]
        refine And.intro (x_ix_nI (by omega) (by omega)) ?_
        rw [nI_clamp (by omega)]
        refine And.intro (x_ix_nI (by omega) (by omega)) ?_
        rw [nI_clamp (by omega)]
        refine And.intro ?_ ⟨trivial, Nat.le_refl _, Nat.le_refl _⟩
        rw [show T.2 3 j = g 9 j from (a5 j hj).symm]
        exact x_QT_0 hT
      · rw [if_neg hx] at hw
        exact absurd hw (by decide)
  · rw [if_neg hw]
    refine And.intro (fun c => absurd c hw) (fun _ => ?_)
    refine Exists.intro _ (And.intro c_refuse (And.intro (And.intro (Nat.zero_le _) (Nat.zero_le _)) (fun q h' hpo => ?_)))
    obtain ⟨rfl, rfl⟩ := hpo
    refine And.intro ?_ ⟨trivial, Nat.le_refl _, Nat.le_refl _⟩
    exact x_QT_0 hT
theorem x_wi_n3 {x : Int32} (h : x_wi x 0 3 = false) : ¬ x_wi x 0 3 = true := by rw [h]; decide
theorem c_tray {x y z : Int32} (hT : x_TC f g T) : x_Ct 100 (d + 2) [.ref 0, .int x, .int y, .int z] (f, g, x_HR r t, dm, n) (x_QT f g (x_HR r t) dm n (st_tray T x y z)) := by
  cases hx : x_wi x 0 3 with
  | true =>
    rcases x_wi_3 hx with rfl | rfl | rfl | rfl
    · exact c_tray_0 hT
    · exact c_tray_1 hT
    · exact c_tray_2 hT
    · exact c_tray_3 hT
  | false =>
    unfold st_tray
    rw [hx, Bool.false_and, if_neg (by decide)]
    refine x_Ct_w (by decide) (Nat.le_of_ble_eq_true rfl) ok100 [] 8 ?_
    refine Exists.intro _ (And.intro c_isTray (And.intro (And.intro (Nat.zero_le _) (Nat.zero_le _)) (fun q h' hpo => ?_)))
    obtain ⟨rfl, rfl⟩ := hpo
    rw [hx]
    refine And.intro (fun _ => ?_) (fun c => absurd rfl c)
    refine Exists.intro _ (And.intro c_refused (And.intro (And.intro (Nat.zero_le _) (Nat.zero_le _)) (fun q h' hpo => ?_)))
    obtain ⟨rfl, rfl⟩ := hpo
    refine And.intro ?_ ⟨Or.inl rfl, Nat.le_refl _, Nat.le_refl _⟩
    exact x_QT_0 hT
theorem c_write {x y : Int32} {w : Int64} (hT : x_TC f g T) : x_Ct 101 (d + 3) [.ref 0, .int x, .int y, .long w] (f, g, x_HR r t, dm, n) (x_QT f g (x_HR r t) dm n (st_write T x y w)) := by
  cases hx : x_wi x 0 3 with
  | true =>
    rcases x_wi_3 hx with rfl | rfl | rfl | rfl
    · exact c_write_0 hT
    · exact c_write_1 hT
    · exact c_write_2 hT
    · exact c_write_3 hT
  | false =>
    have hw : y_wp T x y = 1 := if_neg (x_wi_n3 hx)
    have cw : x_V 166 (d + 2) [.ref 0, .int x, .int y] (f, g, x_HR r t, dm, n) (.int 1) (f, g, x_HR r t, dm, n) := by
      refine x_Ct_w (by decide) (Nat.le_of_ble_eq_true rfl) ok166 [] 8 ?_
      refine Exists.intro _ (And.intro c_isTray (And.intro (And.intro (Nat.zero_le _) (Nat.zero_le _)) (fun q h' hpo => ?_)))
      obtain ⟨rfl, rfl⟩ := hpo
      rw [hx]
      refine And.intro (fun c => absurd rfl c) (fun _ => ?_)
      exact And.intro ⟨rfl, rfl⟩ ⟨trivial, Nat.le_refl _, Nat.le_refl _⟩
    unfold st_write
    rw [hw, if_neg (by decide)]
    refine x_Ct_w (by decide) (Nat.le_of_ble_eq_true rfl) ok101 [] 8 ?_
    refine Exists.intro _ (And.intro cw (And.intro (And.intro (Nat.zero_le _) (Nat.zero_le _)) (fun q h' hpo => ?_)))
    obtain ⟨rfl, rfl⟩ := hpo
    refine And.intro (fun c => absurd c (by decide)) (fun _ => ?_)
    refine Exists.intro _ (And.intro c_refused (And.intro (And.intro (Nat.zero_le _) (Nat.zero_le _)) (fun q h' hpo => ?_)))
    obtain ⟨rfl, rfl⟩ := hpo
    refine And.intro ?_ ⟨Or.inl rfl, Nat.le_refl _, Nat.le_refl _⟩
    exact x_QT_0 hT
theorem c_read {x y : Int32} (hT : x_TC f g T) : x_Ct 102 (d + 3) [.ref 0, .int x, .int y] (f, g, x_HR r t, dm, n) (x_QT f g (x_HR r t) dm n (st_read T x y)) := by
  cases hx : x_wi x 0 3 with
  | true =>
    rcases x_wi_3 hx with rfl | rfl | rfl | rfl
    · exact c_read_0 hT
    · exact c_read_1 hT
    · exact c_read_2 hT
    · exact c_read_3 hT
  | false =>
    have hw : y_wp T x y = 1 := if_neg (x_wi_n3 hx)
    have cw : x_V 166 (d + 2) [.ref 0, .int x, .int y] (f, g, x_HR r t, dm, n) (.int 1) (f, g, x_HR r t, dm, n) := by
      refine x_Ct_w (by decide) (Nat.le_of_ble_eq_true rfl) ok166 [] 8 ?_
      refine Exists.intro _ (And.intro c_isTray (And.intro (And.intro (Nat.zero_le _) (Nat.zero_le _)) (fun q h' hpo => ?_)))
      obtain ⟨rfl, rfl⟩ := hpo
      rw [hx]
      refine And.intro (fun c => absurd rfl c) (fun _ => ?_)
      exact And.intro ⟨rfl, rfl⟩ ⟨trivial, Nat.le_refl _, Nat.le_refl _⟩
    unfold st_read
    rw [hw, if_neg (by decide)]
    refine x_Ct_w (by decide) (Nat.le_of_ble_eq_true rfl) ok102 [] 8 ?_
    refine Exists.intro _ (And.intro cw (And.intro (And.intro (Nat.zero_le _) (Nat.zero_le _)) (fun q h' hpo => ?_)))
    obtain ⟨rfl, rfl⟩ := hpo
    refine And.intro (fun c => absurd c (by decide)) (fun _ => ?_)
    refine Exists.intro _ (And.intro c_refuse (And.intro (And.intro (Nat.zero_le _) (Nat.zero_le _)) (fun q h' hpo => ?_)))
    obtain ⟨rfl, rfl⟩ := hpo
    refine And.intro ?_ ⟨trivial, Nat.le_refl _, Nat.le_refl _⟩
    exact x_QT_0 hT
end C52
