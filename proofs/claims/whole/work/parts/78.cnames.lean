/-! names, the class's -/
def y_oi (o : Option Nat) : Int32 := match o with
  | none => -1
  | some k => nI k
def y_NR (G : Nat → Int64) (v : xV) (N : Nat → Int64) : Prop := (∀ i, i < v 0 0 0 → G i = N i) ∧ (∀ i, i < v 1 0 0 → G (4 + i) = N (4 + i)) ∧ ∀ i, i < v 2 0 0 → G (9 + i) = N (9 + i)
theorem y_NR_0 {G N : Nat → Int64} {v : xV} (h : y_NR G v N) (l : Int64) : y_fd G l 0 (v 0 0 0) 0 = y_fd N l 0 (v 0 0 0) 0 := y_fd_cg _ _ (fun k _ h2 => by rw [Nat.zero_add]; exact h.1 k (by omega))
theorem y_NR_4 {G N : Nat → Int64} {v : xV} (h : y_NR G v N) (l : Int64) : y_fd G l 4 (v 1 0 0) 0 = y_fd N l 4 (v 1 0 0) 0 := y_fd_cg _ _ (fun k _ h2 => h.2.1 k (by omega))
theorem y_NR_9 {G N : Nat → Int64} {v : xV} (h : y_NR G v N) (l : Int64) : y_fd G l 9 (v 2 0 0) 0 = y_fd N l 9 (v 2 0 0) 0 := y_fd_cg _ _ (fun k _ h2 => h.2.2 k (by omega))
theorem y_NR_t {G N : Nat → Int64} {v : xV} (h : y_NR G v N) (l : Int64) : y_tkn G l (v 0 0 0) (v 1 0 0) (v 2 0 0) = y_tkn N l (v 0 0 0) (v 1 0 0) (v 2 0 0) := by
  unfold y_tkn
  rw [y_NR_0 h, y_NR_4 h, y_NR_9 h]
theorem y_oi_no {N : Nat → Int64} {l : Int64} {b many : Nat} (hm : many ≤ 9) : y_oi (y_fd N l b many 0) = -1 ↔ (y_fd N l b many 0).isSome = false := by
  cases e : y_fd N l b many 0 with
  | none => exact ⟨fun _ => rfl, fun _ => rfl⟩
  | some k =>
    have h1 := y_fd_lt _ _ e
    have h2 : ∀ k, k < 9 → ¬ nI k = -1 := by decide +kernel
    exact ⟨fun h => absurd h (h2 k (by omega)), fun h => by cases h⟩
def x_PNn (L p : Nat) (a : Nat → Int32) (m q : Nat) (f : Nat → Nat → Int32) (g : Nat → Nat → Int64) (ρ : Nat → Nat → Option Nat) (dm : List Nat) (n : Nat) (X : xF ((Nat → Int64) × Nat)) (z : Option Value) (h' : xH) : Prop := match X with
  | .inl e => z = some (.int 0) ∧ ∃ F G, h' = (F, G, ρ, dm, n) ∧ x_f10 f g F G ∧ x_FL F e
  | .inr w => z = some (.int 1) ∧ ∃ F G, h' = (F, G, ρ, dm, n) ∧ x_f10 f (x_up g (L + 2) p (y_lt a m q)) F G ∧ x_RC a m w.2 F G
section C78
variable {f : Nat → Nat → Int32} {g : Nat → Nat → Int64} {r t : Nat} {dm : List Nat} {n d : Nat} {v : xV} {a : Nat → Int32} {m q : Nat} {N : Nat → Int64}
theorem c_findName_12_0 {l : Int64} {M : Nat} (hM : f 12 0 = nI M) (hM5 : M ≤ 4) : x_V 33 d [.ref 12, .long l, .int 0] (f, g, x_HR r t, dm, n) (.int (y_oi (y_fd (g 14) l 0 M 0))) (f, g, x_HR r t, dm, n) := by
  obtain ⟨R, hR⟩ : ∃ R, R = y_fd (g 14) l 0 M 0 := ⟨_, rfl⟩
  rw [← hR]
  have lp : ∀ j k, k + j = M → y_fd (g 14) l 0 j k = R → x_J 33 d (fun q h' => q = some (.int (y_oi R)) ∧ h' = (f, g, x_HR r t, dm, n)) 31 [some (.ref 12), some (.long l), none, some (.int 0), some (.int (f 12 0)), some (.int (nI k))] [] (f, g, x_HR r t, dm, n) 0 0 := by
    intro j
    induction j with
    | zero =>
      intro k hk e
      obtain rfl : k = M := by omega
      refine x_wp_ok ok33 [31] 6 ?_
      refine And.intro (fun _ => ?_) (fun c => absurd (show f 12 0 ≤ nI k by rw [hM]; exact nI_le (Nat.le_refl _) (by omega)) c)
      have e1 : R = none := e.symm
      rw [e1]
      exact And.intro ⟨rfl, rfl⟩ ⟨trivial, Nat.le_refl _, Nat.le_refl _⟩
    | succ j ih =>
      intro k hk e
      refine x_wp_ok ok33 [31] 6 ?_
      refine And.intro (fun c => absurd (show f 12 0 ≤ nI k from c) (by rw [hM]; exact nI_ge (by omega) (by omega))) (fun _ => ?_)
      have ix : (0 : Int32) + nI k = nI (0 + k) := nI_add 0 k
      refine And.intro (by show x_ix ((0 : Int32) + nI k) 14; rw [ix]; exact x_ix_nI (by omega) (by omega)) ?_
      have cl : ((0 : Int32) + nI k).toNatClampNeg = 0 + k := by rw [ix]; exact nI_clamp (by omega)
      refine And.intro (fun c => ?_) (fun c => ?_)
      · have c : ¬ lg_cmp (g 14 ((0 : Int32) + nI k).toNatClampNeg) l = 0 := c
        rw [cl, x_lg_eq] at c
        have e2 : y_fd (g 14) l 0 (j + 1) k = y_fd (g 14) l 0 j (k + 1) := if_neg c
        have e0 := ih (k + 1) (by omega) (e2.symm.trans e)
        rw [← nI_1o] at e0
        exact e0
      · have c : lg_cmp (g 14 ((0 : Int32) + nI k).toNatClampNeg) l = 0 := c
        rw [cl, x_lg_eq] at c
        have e2 : y_fd (g 14) l 0 (j + 1) k = some k := if_pos c
        have e1 : R = some k := e.symm.trans e2
        rw [e1]
        exact And.intro ⟨rfl, rfl⟩ ⟨trivial, Nat.le_refl _, Nat.le_refl _⟩
  refine x_Ct_w (by decide) (Nat.le_of_ble_eq_true rfl) ok33 [31] 6 ?_
  refine And.intro (fun _ => ?_) (fun c => absurd rfl c)
  exact lp M 0 (by omega) hR.symm
theorem c_findName_12_4 {l : Int64} {M : Nat} (hM : f 12 1 = nI M) (hM5 : M ≤ 5) : x_V 33 d [.ref 12, .long l, .int 4] (f, g, x_HR r t, dm, n) (.int (y_oi (y_fd (g 14) l 4 M 0))) (f, g, x_HR r t, dm, n) := by
  obtain ⟨R, hR⟩ : ∃ R, R = y_fd (g 14) l 4 M 0 := ⟨_, rfl⟩
  rw [← hR]
  have lp : ∀ j k, k + j = M → y_fd (g 14) l 4 j k = R → x_J 33 d (fun q h' => q = some (.int (y_oi R)) ∧ h' = (f, g, x_HR r t, dm, n)) 31 [some (.ref 12), some (.long l), none, some (.int 4), some (.int (f 12 1)), some (.int (nI k))] [] (f, g, x_HR r t, dm, n) 0 0 := by
    intro j
    induction j with
    | zero =>
      intro k hk e
      obtain rfl : k = M := by omega
      refine x_wp_ok ok33 [31] 6 ?_
      refine And.intro (fun _ => ?_) (fun c => absurd (show f 12 1 ≤ nI k by rw [hM]; exact nI_le (Nat.le_refl _) (by omega)) c)
      have e1 : R = none := e.symm
      rw [e1]
      exact And.intro ⟨rfl, rfl⟩ ⟨trivial, Nat.le_refl _, Nat.le_refl _⟩
    | succ j ih =>
      intro k hk e
      refine x_wp_ok ok33 [31] 6 ?_
      refine And.intro (fun c => absurd (show f 12 1 ≤ nI k from c) (by rw [hM]; exact nI_ge (by omega) (by omega))) (fun _ => ?_)
      have ix : (4 : Int32) + nI k = nI (4 + k) := nI_add 4 k
      refine And.intro (by show x_ix ((4 : Int32) + nI k) 14; rw [ix]; exact x_ix_nI (by omega) (by omega)) ?_
      have cl : ((4 : Int32) + nI k).toNatClampNeg = 4 + k := by rw [ix]; exact nI_clamp (by omega)
      refine And.intro (fun c => ?_) (fun c => ?_)
      · have c : ¬ lg_cmp (g 14 ((4 : Int32) + nI k).toNatClampNeg) l = 0 := c
        rw [cl, x_lg_eq] at c
        have e2 : y_fd (g 14) l 4 (j + 1) k = y_fd (g 14) l 4 j (k + 1) := if_neg c
        have e0 := ih (k + 1) (by omega) (e2.symm.trans e)
        rw [← nI_1o] at e0
        exact e0
      · have c : lg_cmp (g 14 ((4 : Int32) + nI k).toNatClampNeg) l = 0 := c
        rw [cl, x_lg_eq] at c
        have e2 : y_fd (g 14) l 4 (j + 1) k = some k := if_pos c
        have e1 : R = some k := e.symm.trans e2
        rw [e1]
        exact And.intro ⟨rfl, rfl⟩ ⟨trivial, Nat.le_refl _, Nat.le_refl _⟩
  refine x_Ct_w (by decide) (Nat.le_of_ble_eq_true rfl) ok33 [31] 6 ?_
  refine And.intro (fun c => absurd c (by decide)) (fun _ => And.intro (fun c => absurd rfl c) (fun _ => ?_))
  exact lp M 0 (by omega) hR.symm
theorem c_findName_12_9 {l : Int64} {M : Nat} (hM : f 12 2 = nI M) (hM5 : M ≤ 5) : x_V 33 d [.ref 12, .long l, .int 9] (f, g, x_HR r t, dm, n) (.int (y_oi (y_fd (g 14) l 9 M 0))) (f, g, x_HR r t, dm, n) := by
  obtain ⟨R, hR⟩ : ∃ R, R = y_fd (g 14) l 9 M 0 := ⟨_, rfl⟩
  rw [← hR]
  have lp : ∀ j k, k + j = M → y_fd (g 14) l 9 j k = R → x_J 33 d (fun q h' => q = some (.int (y_oi R)) ∧ h' = (f, g, x_HR r t, dm, n)) 31 [some (.ref 12), some (.long l), none, some (.int 9), some (.int (f 12 2)), some (.int (nI k))] [] (f, g, x_HR r t, dm, n) 0 0 := by
    intro j
    induction j with
    | zero =>
      intro k hk e
      obtain rfl : k = M := by omega
      refine x_wp_ok ok33 [31] 6 ?_
      refine And.intro (fun _ => ?_) (fun c => absurd (show f 12 2 ≤ nI k by rw [hM]; exact nI_le (Nat.le_refl _) (by omega)) c)
      have e1 : R = none := e.symm
      rw [e1]
      exact And.intro ⟨rfl, rfl⟩ ⟨trivial, Nat.le_refl _, Nat.le_refl _⟩
    | succ j ih =>
      intro k hk e
      refine x_wp_ok ok33 [31] 6 ?_
      refine And.intro (fun c => absurd (show f 12 2 ≤ nI k from c) (by rw [hM]; exact nI_ge (by omega) (by omega))) (fun _ => ?_)
      have ix : (9 : Int32) + nI k = nI (9 + k) := nI_add 9 k
      refine And.intro (by show x_ix ((9 : Int32) + nI k) 14; rw [ix]; exact x_ix_nI (by omega) (by omega)) ?_
      have cl : ((9 : Int32) + nI k).toNatClampNeg = 9 + k := by rw [ix]; exact nI_clamp (by omega)
      refine And.intro (fun c => ?_) (fun c => ?_)
      · have c : ¬ lg_cmp (g 14 ((9 : Int32) + nI k).toNatClampNeg) l = 0 := c
        rw [cl, x_lg_eq] at c
        have e2 : y_fd (g 14) l 9 (j + 1) k = y_fd (g 14) l 9 j (k + 1) := if_neg c
        have e0 := ih (k + 1) (by omega) (e2.symm.trans e)
        rw [← nI_1o] at e0
        exact e0
      · have c : lg_cmp (g 14 ((9 : Int32) + nI k).toNatClampNeg) l = 0 := c
        rw [cl, x_lg_eq] at c
        have e2 : y_fd (g 14) l 9 (j + 1) k = some k := if_pos c
        have e1 : R = some k := e.symm.trans e2
        rw [e1]
        exact And.intro ⟨rfl, rfl⟩ ⟨trivial, Nat.le_refl _, Nat.le_refl _⟩
  refine x_Ct_w (by decide) (Nat.le_of_ble_eq_true rfl) ok33 [31] 6 ?_
  refine And.intro (fun c => absurd c (by decide)) (fun _ => And.intro (fun _ => ?_) (fun c => absurd c (by decide)))
  exact lp M 0 (by omega) hR.symm
theorem c_findName_22_0 {l : Int64} {M : Nat} (hM : f 22 0 = nI M) (hM5 : M ≤ 4) : x_V 33 d [.ref 22, .long l, .int 0] (f, g, x_HR r t, dm, n) (.int (y_oi (y_fd (g 24) l 0 M 0))) (f, g, x_HR r t, dm, n) := by
  obtain ⟨R, hR⟩ : ∃ R, R = y_fd (g 24) l 0 M 0 := ⟨_, rfl⟩
  rw [← hR]
  have lp : ∀ j k, k + j = M → y_fd (g 24) l 0 j k = R → x_J 33 d (fun q h' => q = some (.int (y_oi R)) ∧ h' = (f, g, x_HR r t, dm, n)) 31 [some (.ref 22), some (.long l), none, some (.int 0), some (.int (f 22 0)), some (.int (nI k))] [] (f, g, x_HR r t, dm, n) 0 0 := by
    intro j
    induction j with
    | zero =>
      intro k hk e
      obtain rfl : k = M := by omega
      refine x_wp_ok ok33 [31] 6 ?_
      refine And.intro (fun _ => ?_) (fun c => absurd (show f 22 0 ≤ nI k by rw [hM]; exact nI_le (Nat.le_refl _) (by omega)) c)
      have e1 : R = none := e.symm
      rw [e1]
      exact And.intro ⟨rfl, rfl⟩ ⟨trivial, Nat.le_refl _, Nat.le_refl _⟩
    | succ j ih =>
      intro k hk e
      refine x_wp_ok ok33 [31] 6 ?_
      refine And.intro (fun c => absurd (show f 22 0 ≤ nI k from c) (by rw [hM]; exact nI_ge (by omega) (by omega))) (fun _ => ?_)
      have ix : (0 : Int32) + nI k = nI (0 + k) := nI_add 0 k
      refine And.intro (by show x_ix ((0 : Int32) + nI k) 14; rw [ix]; exact x_ix_nI (by omega) (by omega)) ?_
      have cl : ((0 : Int32) + nI k).toNatClampNeg = 0 + k := by rw [ix]; exact nI_clamp (by omega)
      refine And.intro (fun c => ?_) (fun c => ?_)
      · have c : ¬ lg_cmp (g 24 ((0 : Int32) + nI k).toNatClampNeg) l = 0 := c
        rw [cl, x_lg_eq] at c
        have e2 : y_fd (g 24) l 0 (j + 1) k = y_fd (g 24) l 0 j (k + 1) := if_neg c
        have e0 := ih (k + 1) (by omega) (e2.symm.trans e)
        rw [← nI_1o] at e0
        exact e0
      · have c : lg_cmp (g 24 ((0 : Int32) + nI k).toNatClampNeg) l = 0 := c
        rw [cl, x_lg_eq] at c
        have e2 : y_fd (g 24) l 0 (j + 1) k = some k := if_pos c
        have e1 : R = some k := e.symm.trans e2
        rw [e1]
        exact And.intro ⟨rfl, rfl⟩ ⟨trivial, Nat.le_refl _, Nat.le_refl _⟩
  refine x_Ct_w (by decide) (Nat.le_of_ble_eq_true rfl) ok33 [31] 6 ?_
  refine And.intro (fun _ => ?_) (fun c => absurd rfl c)
  exact lp M 0 (by omega) hR.symm
theorem c_findName_22_4 {l : Int64} {M : Nat} (hM : f 22 1 = nI M) (hM5 : M ≤ 5) : x_V 33 d [.ref 22, .long l, .int 4] (f, g, x_HR r t, dm, n) (.int (y_oi (y_fd (g 24) l 4 M 0))) (f, g, x_HR r t, dm, n) := by
  obtain ⟨R, hR⟩ : ∃ R, R = y_fd (g 24) l 4 M 0 := ⟨_, rfl⟩
  rw [← hR]
  have lp : ∀ j k, k + j = M → y_fd (g 24) l 4 j k = R → x_J 33 d (fun q h' => q = some (.int (y_oi R)) ∧ h' = (f, g, x_HR r t, dm, n)) 31 [some (.ref 22), some (.long l), none, some (.int 4), some (.int (f 22 1)), some (.int (nI k))] [] (f, g, x_HR r t, dm, n) 0 0 := by
    intro j
    induction j with
    | zero =>
      intro k hk e
      obtain rfl : k = M := by omega
      refine x_wp_ok ok33 [31] 6 ?_
      refine And.intro (fun _ => ?_) (fun c => absurd (show f 22 1 ≤ nI k by rw [hM]; exact nI_le (Nat.le_refl _) (by omega)) c)
      have e1 : R = none := e.symm
      rw [e1]
      exact And.intro ⟨rfl, rfl⟩ ⟨trivial, Nat.le_refl _, Nat.le_refl _⟩
    | succ j ih =>
      intro k hk e
      refine x_wp_ok ok33 [31] 6 ?_
      refine And.intro (fun c => absurd (show f 22 1 ≤ nI k from c) (by rw [hM]; exact nI_ge (by omega) (by omega))) (fun _ => ?_)
      have ix : (4 : Int32) + nI k = nI (4 + k) := nI_add 4 k
      refine And.intro (by show x_ix ((4 : Int32) + nI k) 14; rw [ix]; exact x_ix_nI (by omega) (by omega)) ?_
      have cl : ((4 : Int32) + nI k).toNatClampNeg = 4 + k := by rw [ix]; exact nI_clamp (by omega)
      refine And.intro (fun c => ?_) (fun c => ?_)
      · have c : ¬ lg_cmp (g 24 ((4 : Int32) + nI k).toNatClampNeg) l = 0 := c
        rw [cl, x_lg_eq] at c
        have e2 : y_fd (g 24) l 4 (j + 1) k = y_fd (g 24) l 4 j (k + 1) := if_neg c
        have e0 := ih (k + 1) (by omega) (e2.symm.trans e)
        rw [← nI_1o] at e0
        exact e0
      · have c : lg_cmp (g 24 ((4 : Int32) + nI k).toNatClampNeg) l = 0 := c
        rw [cl, x_lg_eq] at c
        have e2 : y_fd (g 24) l 4 (j + 1) k = some k := if_pos c
        have e1 : R = some k := e.symm.trans e2
        rw [e1]
        exact And.intro ⟨rfl, rfl⟩ ⟨trivial, Nat.le_refl _, Nat.le_refl _⟩
  refine x_Ct_w (by decide) (Nat.le_of_ble_eq_true rfl) ok33 [31] 6 ?_
  refine And.intro (fun c => absurd c (by decide)) (fun _ => And.intro (fun c => absurd rfl c) (fun _ => ?_))
  exact lp M 0 (by omega) hR.symm
theorem c_findName_22_9 {l : Int64} {M : Nat} (hM : f 22 2 = nI M) (hM5 : M ≤ 5) : x_V 33 d [.ref 22, .long l, .int 9] (f, g, x_HR r t, dm, n) (.int (y_oi (y_fd (g 24) l 9 M 0))) (f, g, x_HR r t, dm, n) := by
  obtain ⟨R, hR⟩ : ∃ R, R = y_fd (g 24) l 9 M 0 := ⟨_, rfl⟩
  rw [← hR]
  have lp : ∀ j k, k + j = M → y_fd (g 24) l 9 j k = R → x_J 33 d (fun q h' => q = some (.int (y_oi R)) ∧ h' = (f, g, x_HR r t, dm, n)) 31 [some (.ref 22), some (.long l), none, some (.int 9), some (.int (f 22 2)), some (.int (nI k))] [] (f, g, x_HR r t, dm, n) 0 0 := by
    intro j
    induction j with
    | zero =>
      intro k hk e
      obtain rfl : k = M := by omega
      refine x_wp_ok ok33 [31] 6 ?_
      refine And.intro (fun _ => ?_) (fun c => absurd (show f 22 2 ≤ nI k by rw [hM]; exact nI_le (Nat.le_refl _) (by omega)) c)
      have e1 : R = none := e.symm
      rw [e1]
      exact And.intro ⟨rfl, rfl⟩ ⟨trivial, Nat.le_refl _, Nat.le_refl _⟩
    | succ j ih =>
      intro k hk e
      refine x_wp_ok ok33 [31] 6 ?_
      refine And.intro (fun c => absurd (show f 22 2 ≤ nI k from c) (by rw [hM]; exact nI_ge (by omega) (by omega))) (fun _ => ?_)
      have ix : (9 : Int32) + nI k = nI (9 + k) := nI_add 9 k
      refine And.intro (by show x_ix ((9 : Int32) + nI k) 14; rw [ix]; exact x_ix_nI (by omega) (by omega)) ?_
      have cl : ((9 : Int32) + nI k).toNatClampNeg = 9 + k := by rw [ix]; exact nI_clamp (by omega)
      refine And.intro (fun c => ?_) (fun c => ?_)
      · have c : ¬ lg_cmp (g 24 ((9 : Int32) + nI k).toNatClampNeg) l = 0 := c
        rw [cl, x_lg_eq] at c
        have e2 : y_fd (g 24) l 9 (j + 1) k = y_fd (g 24) l 9 j (k + 1) := if_neg c
        have e0 := ih (k + 1) (by omega) (e2.symm.trans e)
        rw [← nI_1o] at e0
        exact e0
      · have c : lg_cmp (g 24 ((9 : Int32) + nI k).toNatClampNeg) l = 0 := c
        rw [cl, x_lg_eq] at c
        have e2 : y_fd (g 24) l 9 (j + 1) k = some k := if_pos c
        have e1 : R = some k := e.symm.trans e2
        rw [e1]
        exact And.intro ⟨rfl, rfl⟩ ⟨trivial, Nat.le_refl _, Nat.le_refl _⟩
  refine x_Ct_w (by decide) (Nat.le_of_ble_eq_true rfl) ok33 [31] 6 ?_
  refine And.intro (fun c => absurd c (by decide)) (fun _ => And.intro (fun _ => ?_) (fun c => absurd c (by decide)))
  exact lp M 0 (by omega) hR.symm
theorem c_isTakenName_12 {l : Int64} (h0 : f 12 0 = nI (v 0 0 0)) (h1 : f 12 1 = nI (v 1 0 0)) (h2 : f 12 2 = nI (v 2 0 0)) (b0 : v 0 0 0 ≤ 4) (b1 : v 1 0 0 ≤ 5) (b2 : v 2 0 0 ≤ 5) : x_V 34 (d + 1) [.ref 12, .long l] (f, g, x_HR r t, dm, n) (.int (x_bo (y_tkn (g 14) l (v 0 0 0) (v 1 0 0) (v 2 0 0)))) (f, g, x_HR r t, dm, n) := by
  have yes : y_tkn (g 14) l (v 0 0 0) (v 1 0 0) (v 2 0 0) = true → x_J 34 (d + 1) (fun q h' => q = some (.int (x_bo (y_tkn (g 14) l (v 0 0 0) (v 1 0 0) (v 2 0 0)))) ∧ h' = (f, g, x_HR r t, dm, n)) 31 [some (.ref 12), some (.long l), none] [] (f, g, x_HR r t, dm, n) 0 0 := by
    intro h
    refine x_wp_ok ok34 [] 6 ?_
    rw [h]
    exact And.intro ⟨rfl, rfl⟩ ⟨Or.inr rfl, Nat.le_refl _, Nat.le_refl _⟩
  refine x_Ct_w (by decide) (Nat.le_of_ble_eq_true rfl) ok34 [31] 6 ?_
  refine Exists.intro _ (And.intro (c_findName_12_0 h0 b0) (And.intro (And.intro (Nat.zero_le _) (Nat.zero_le _)) (fun q h' hpo => ?_)))
  obtain ⟨rfl, rfl⟩ := hpo
  refine And.intro (fun c => ?_) (fun c => ?_)
  · have c : ¬ y_oi (y_fd (g 14) l 0 (v 0 0 0) 0) = -1 := c
    rw [y_oi_no (by omega), Bool.not_eq_false] at c
    exact yes (by unfold y_tkn; rw [c]; rfl)
  · have c : y_oi (y_fd (g 14) l 0 (v 0 0 0) 0) = -1 := c
    rw [y_oi_no (by omega)] at c
    refine Exists.intro _ (And.intro (c_findName_12_4 h1 b1) (And.intro (And.intro (Nat.zero_le _) (Nat.zero_le _)) (fun q h' hpo => ?_)))
    obtain ⟨rfl, rfl⟩ := hpo
    refine And.intro (fun c2 => ?_) (fun c2 => ?_)
    · have c2 : ¬ y_oi (y_fd (g 14) l 4 (v 1 0 0) 0) = -1 := c2
      rw [y_oi_no (by omega), Bool.not_eq_false] at c2
      exact yes (by unfold y_tkn; rw [c, c2]; rfl)
    · have c2 : y_oi (y_fd (g 14) l 4 (v 1 0 0) 0) = -1 := c2
      rw [y_oi_no (by omega)] at c2
      refine Exists.intro _ (And.intro (c_findName_12_9 h2 b2) (And.intro (And.intro (Nat.zero_le _) (Nat.zero_le _)) (fun q h' hpo => ?_)))
      obtain ⟨rfl, rfl⟩ := hpo
      refine And.intro (fun c3 => ?_) (fun c3 => ?_)
      · have c3 : y_oi (y_fd (g 14) l 9 (v 2 0 0) 0) = -1 := c3
        rw [y_oi_no (by omega)] at c3
        have e : y_tkn (g 14) l (v 0 0 0) (v 1 0 0) (v 2 0 0) = false := by unfold y_tkn; rw [c, c2, c3]; rfl
        rw [e]
        exact And.intro ⟨rfl, rfl⟩ ⟨Or.inl rfl, Nat.le_refl _, Nat.le_refl _⟩
      · have c3 : ¬ y_oi (y_fd (g 14) l 9 (v 2 0 0) 0) = -1 := c3
        rw [y_oi_no (by omega), Bool.not_eq_false] at c3
        exact yes (by unfold y_tkn; rw [c, c2, c3]; rfl)
theorem c_takeNewName_12 {p : Nat} (hT : y_TP a m) (hq : q ≤ m) (hR : x_RC a m q f g) (hp : p < 14) (h0 : f 12 0 = nI (v 0 0 0)) (h1 : f 12 1 = nI (v 1 0 0)) (h2 : f 12 2 = nI (v 2 0 0)) (b0 : v 0 0 0 ≤ 4) (b1 : v 1 0 0 ≤ 5) (b2 : v 2 0 0 ≤ 5) (hN : y_NR (g 14) v N) : x_Ct 91 (d + 2) [.ref 10, .ref 12, .int (nI p)] (f, g, x_HR r t, dm, n) (x_PNn 12 p a m q f g (x_HR r t) dm n (y_new a m N (v 0 0 0) (v 1 0 0) (v 2 0 0) p q)) := by
  obtain ⟨Po, hPo⟩ : ∃ Po : Option Value → xH → Prop, Po = x_PNn 12 p a m q f g (x_HR r t) dm n (y_new a m N (v 0 0 0) (v 1 0 0) (v 2 0 0) p q) := ⟨_, rfl⟩
  rw [← hPo]
  refine x_Ct_w (by decide) (Nat.le_of_ble_eq_true rfl) ok91 [37, 43] 6 ?_
  refine Exists.intro _ (And.intro (c_isName hR hT.1 hq) (And.intro (And.intro (Nat.zero_le _) (Nat.zero_le _)) (fun q h' hpo => ?_)))
  obtain ⟨rfl, rfl⟩ := hpo
  cases e : y_nm a m q with
  | false =>
    refine And.intro (fun c => absurd rfl c) (fun _ => ?_)
    refine Exists.intro _ (And.intro (c_fail (k := 2) hR) (And.intro (And.intro (Nat.zero_le _) (Nat.zero_le _)) (fun q h' hpo => ?_)))
    obtain ⟨rfl, F, rfl, u1, u2⟩ := hpo
    refine And.intro ?_ ⟨Or.inl rfl, Nat.le_refl _, Nat.le_refl _⟩
    have eX : y_new a m N (v 0 0 0) (v 1 0 0) (v 2 0 0) p q = .inl (y_fl a m q 2) := if_neg (by rw [e]; decide)
    rw [hPo, eX]
    exact ⟨rfl, F, g, rfl, u1, u2⟩
  | true =>
    obtain ⟨s1, s2, s3⟩ := y_nm_sa e
    have hl : g 10 5 = y_lt a m q := hR.2.2.2.2.2.2.2.1 s1 s3
    refine And.intro (fun _ => ?_) (fun c => absurd (show (1 : Int32) = 0 from c) (by decide))
    show ∃ P, x_Ct 34 (d + 1) [.ref 12, .long (g 10 5)] _ P ∧ _
    rw [hl]
    refine Exists.intro _ (And.intro (c_isTakenName_12 h0 h1 h2 b0 b1 b2) (And.intro (And.intro (Nat.zero_le _) (Nat.zero_le _)) (fun q h' hpo => ?_)))
    obtain ⟨rfl, rfl⟩ := hpo
    rw [y_NR_t hN]
    cases e2 : y_tkn N (y_lt a m q) (v 0 0 0) (v 1 0 0) (v 2 0 0) with
    | true =>
      refine And.intro (fun _ => ?_) (fun c => absurd (show (1 : Int32) = 0 from c) (by decide))
      refine x_wp_ok ok91 [] 6 ?_
      refine Exists.intro _ (And.intro (c_fail (k := 3) hR) (And.intro (And.intro (Nat.zero_le _) (Nat.zero_le _)) (fun q h' hpo => ?_)))
      obtain ⟨rfl, F, rfl, u1, u2⟩ := hpo
      refine And.intro ?_ ⟨Or.inl rfl, Nat.le_refl _, Nat.le_refl _⟩
      have eX : y_new a m N (v 0 0 0) (v 1 0 0) (v 2 0 0) p q = .inl (y_fl a m q 3) := (if_pos e).trans (if_pos e2)
      rw [hPo, eX]
      exact ⟨rfl, F, g, rfl, u1, u2⟩
    | false =>
      refine And.intro (fun c => absurd rfl c) (fun _ => ?_)
      refine And.intro (fun c => absurd (show nI p < 0 from c) (nI_pos (by omega))) (fun _ => ?_)
      refine And.intro (fun _ => ?_) (fun c => absurd (show nI p < nI 14 from nI_lt hp (by decide)) c)
      refine x_wp_ok ok91 [] 6 ?_
      refine And.intro (x_ix_nI (by omega) (by omega)) ?_
      rw [nI_clamp (by omega)]
      have hR2 : x_RC a m q f (x_up g 14 p (g 10 5)) := ⟨hR.1, by rw [x_up_k (by decide)]; exact hR.2⟩
      refine Exists.intro _ (And.intro (c_adv hT hR2 (by rw [s1]; decide) (by rw [s1]; decide)) (And.intro (And.intro (Nat.zero_le _) (Nat.zero_le _)) (fun q h' hpo => ?_)))
      obtain ⟨rfl, F, G, rfl, u1, u2, u3⟩ := hpo
      have u1 : x_f10 f (x_up g 14 p (g 10 5)) F G := u1
      rw [hl] at u1
      refine And.intro ?_ ⟨Or.inr rfl, Nat.le_refl _, Nat.le_refl _⟩
      have eX : y_new a m N (v 0 0 0) (v 1 0 0) (v 2 0 0) p q = .inr (va_up N p (y_lt a m q), y_nxt a m q) := (if_pos e).trans (if_neg (by rw [e2]; decide))
      rw [hPo, eX]
      exact ⟨rfl, F, G, rfl, u1, u3⟩
theorem c_isTakenName_22 {l : Int64} (h0 : f 22 0 = nI (v 0 0 0)) (h1 : f 22 1 = nI (v 1 0 0)) (h2 : f 22 2 = nI (v 2 0 0)) (b0 : v 0 0 0 ≤ 4) (b1 : v 1 0 0 ≤ 5) (b2 : v 2 0 0 ≤ 5) : x_V 34 (d + 1) [.ref 22, .long l] (f, g, x_HR r t, dm, n) (.int (x_bo (y_tkn (g 24) l (v 0 0 0) (v 1 0 0) (v 2 0 0)))) (f, g, x_HR r t, dm, n) := by
  have yes : y_tkn (g 24) l (v 0 0 0) (v 1 0 0) (v 2 0 0) = true → x_J 34 (d + 1) (fun q h' => q = some (.int (x_bo (y_tkn (g 24) l (v 0 0 0) (v 1 0 0) (v 2 0 0)))) ∧ h' = (f, g, x_HR r t, dm, n)) 31 [some (.ref 22), some (.long l), none] [] (f, g, x_HR r t, dm, n) 0 0 := by
    intro h
    refine x_wp_ok ok34 [] 6 ?_
    rw [h]
    exact And.intro ⟨rfl, rfl⟩ ⟨Or.inr rfl, Nat.le_refl _, Nat.le_refl _⟩
  refine x_Ct_w (by decide) (Nat.le_of_ble_eq_true rfl) ok34 [31] 6 ?_
  refine Exists.intro _ (And.intro (c_findName_22_0 h0 b0) (And.intro (And.intro (Nat.zero_le _) (Nat.zero_le _)) (fun q h' hpo => ?_)))
  obtain ⟨rfl, rfl⟩ := hpo
  refine And.intro (fun c => ?_) (fun c => ?_)
  · have c : ¬ y_oi (y_fd (g 24) l 0 (v 0 0 0) 0) = -1 := c
    rw [y_oi_no (by omega), Bool.not_eq_false] at c
    exact yes (by unfold y_tkn; rw [c]; rfl)
  · have c : y_oi (y_fd (g 24) l 0 (v 0 0 0) 0) = -1 := c
    rw [y_oi_no (by omega)] at c
    refine Exists.intro _ (And.intro (c_findName_22_4 h1 b1) (And.intro (And.intro (Nat.zero_le _) (Nat.zero_le _)) (fun q h' hpo => ?_)))
    obtain ⟨rfl, rfl⟩ := hpo
    refine And.intro (fun c2 => ?_) (fun c2 => ?_)
    · have c2 : ¬ y_oi (y_fd (g 24) l 4 (v 1 0 0) 0) = -1 := c2
      rw [y_oi_no (by omega), Bool.not_eq_false] at c2
      exact yes (by unfold y_tkn; rw [c, c2]; rfl)
    · have c2 : y_oi (y_fd (g 24) l 4 (v 1 0 0) 0) = -1 := c2
      rw [y_oi_no (by omega)] at c2
      refine Exists.intro _ (And.intro (c_findName_22_9 h2 b2) (And.intro (And.intro (Nat.zero_le _) (Nat.zero_le _)) (fun q h' hpo => ?_)))
      obtain ⟨rfl, rfl⟩ := hpo
      refine And.intro (fun c3 => ?_) (fun c3 => ?_)
      · have c3 : y_oi (y_fd (g 24) l 9 (v 2 0 0) 0) = -1 := c3
        rw [y_oi_no (by omega)] at c3
        have e : y_tkn (g 24) l (v 0 0 0) (v 1 0 0) (v 2 0 0) = false := by unfold y_tkn; rw [c, c2, c3]; rfl
        rw [e]
        exact And.intro ⟨rfl, rfl⟩ ⟨Or.inl rfl, Nat.le_refl _, Nat.le_refl _⟩
      · have c3 : ¬ y_oi (y_fd (g 24) l 9 (v 2 0 0) 0) = -1 := c3
        rw [y_oi_no (by omega), Bool.not_eq_false] at c3
        exact yes (by unfold y_tkn; rw [c, c2, c3]; rfl)
theorem c_takeNewName_22 {p : Nat} (hT : y_TP a m) (hq : q ≤ m) (hR : x_RC a m q f g) (hp : p < 14) (h0 : f 22 0 = nI (v 0 0 0)) (h1 : f 22 1 = nI (v 1 0 0)) (h2 : f 22 2 = nI (v 2 0 0)) (b0 : v 0 0 0 ≤ 4) (b1 : v 1 0 0 ≤ 5) (b2 : v 2 0 0 ≤ 5) (hN : y_NR (g 24) v N) : x_Ct 91 (d + 2) [.ref 10, .ref 22, .int (nI p)] (f, g, x_HR r t, dm, n) (x_PNn 22 p a m q f g (x_HR r t) dm n (y_new a m N (v 0 0 0) (v 1 0 0) (v 2 0 0) p q)) := by
  obtain ⟨Po, hPo⟩ : ∃ Po : Option Value → xH → Prop, Po = x_PNn 22 p a m q f g (x_HR r t) dm n (y_new a m N (v 0 0 0) (v 1 0 0) (v 2 0 0) p q) := ⟨_, rfl⟩
  rw [← hPo]
  refine x_Ct_w (by decide) (Nat.le_of_ble_eq_true rfl) ok91 [37, 43] 6 ?_
  refine Exists.intro _ (And.intro (c_isName hR hT.1 hq) (And.intro (And.intro (Nat.zero_le _) (Nat.zero_le _)) (fun q h' hpo => ?_)))
  obtain ⟨rfl, rfl⟩ := hpo
  cases e : y_nm a m q with
  | false =>
    refine And.intro (fun c => absurd rfl c) (fun _ => ?_)
    refine Exists.intro _ (And.intro (c_fail (k := 2) hR) (And.intro (And.intro (Nat.zero_le _) (Nat.zero_le _)) (fun q h' hpo => ?_)))
    obtain ⟨rfl, F, rfl, u1, u2⟩ := hpo
    refine And.intro ?_ ⟨Or.inl rfl, Nat.le_refl _, Nat.le_refl _⟩
    have eX : y_new a m N (v 0 0 0) (v 1 0 0) (v 2 0 0) p q = .inl (y_fl a m q 2) := if_neg (by rw [e]; decide)
    rw [hPo, eX]
    exact ⟨rfl, F, g, rfl, u1, u2⟩
  | true =>
    obtain ⟨s1, s2, s3⟩ := y_nm_sa e
    have hl : g 10 5 = y_lt a m q := hR.2.2.2.2.2.2.2.1 s1 s3
    refine And.intro (fun _ => ?_) (fun c => absurd (show (1 : Int32) = 0 from c) (by decide))
    show ∃ P, x_Ct 34 (d + 1) [.ref 22, .long (g 10 5)] _ P ∧ _
    rw [hl]
    refine Exists.intro _ (And.intro (c_isTakenName_22 h0 h1 h2 b0 b1 b2) (And.intro (And.intro (Nat.zero_le _) (Nat.zero_le _)) (fun q h' hpo => ?_)))
    obtain ⟨rfl, rfl⟩ := hpo
    rw [y_NR_t hN]
    cases e2 : y_tkn N (y_lt a m q) (v 0 0 0) (v 1 0 0) (v 2 0 0) with
    | true =>
      refine And.intro (fun _ => ?_) (fun c => absurd (show (1 : Int32) = 0 from c) (by decide))
      refine x_wp_ok ok91 [] 6 ?_
      refine Exists.intro _ (And.intro (c_fail (k := 3) hR) (And.intro (And.intro (Nat.zero_le _) (Nat.zero_le _)) (fun q h' hpo => ?_)))
      obtain ⟨rfl, F, rfl, u1, u2⟩ := hpo
      refine And.intro ?_ ⟨Or.inl rfl, Nat.le_refl _, Nat.le_refl _⟩
      have eX : y_new a m N (v 0 0 0) (v 1 0 0) (v 2 0 0) p q = .inl (y_fl a m q 3) := (if_pos e).trans (if_pos e2)
      rw [hPo, eX]
      exact ⟨rfl, F, g, rfl, u1, u2⟩
    | false =>
      refine And.intro (fun c => absurd rfl c) (fun _ => ?_)
      refine And.intro (fun c => absurd (show nI p < 0 from c) (nI_pos (by omega))) (fun _ => ?_)
      refine And.intro (fun _ => ?_) (fun c => absurd (show nI p < nI 14 from nI_lt hp (by decide)) c)
      refine x_wp_ok ok91 [] 6 ?_
      refine And.intro (x_ix_nI (by omega) (by omega)) ?_
      rw [nI_clamp (by omega)]
      have hR2 : x_RC a m q f (x_up g 24 p (g 10 5)) := ⟨hR.1, by rw [x_up_k (by decide)]; exact hR.2⟩
      refine Exists.intro _ (And.intro (c_adv hT hR2 (by rw [s1]; decide) (by rw [s1]; decide)) (And.intro (And.intro (Nat.zero_le _) (Nat.zero_le _)) (fun q h' hpo => ?_)))
      obtain ⟨rfl, F, G, rfl, u1, u2, u3⟩ := hpo
      have u1 : x_f10 f (x_up g 24 p (g 10 5)) F G := u1
      rw [hl] at u1
      refine And.intro ?_ ⟨Or.inr rfl, Nat.le_refl _, Nat.le_refl _⟩
      have eX : y_new a m N (v 0 0 0) (v 1 0 0) (v 2 0 0) p q = .inr (va_up N p (y_lt a m q), y_nxt a m q) := (if_pos e).trans (if_neg (by rw [e2]; decide))
      rw [hPo, eX]
      exact ⟨rfl, F, G, rfl, u1, u3⟩
theorem c_takeOldName_12_0 {M : Nat} (hT : y_TP a m) (hq : q ≤ m) (hR : x_RC a m q f g) (hM : f 12 0 = nI M) (hM5 : M ≤ 4) (hN : y_fd (g 14) (y_lt a m q) 0 M 0 = y_fd N (y_lt a m q) 0 M 0) : x_Ct 90 (d + 2) [.ref 10, .ref 12, .int 0] (f, g, x_HR r t, dm, n) (x_PT f g (x_HR r t) dm n (y_old a m N 0 M q) (fun z F G => x_RC a m z.2 F G ∧ F 10 9 = nI z.1)) := by
  obtain ⟨Po, hPo⟩ : ∃ Po : Option Value → xH → Prop, Po = x_PT f g (x_HR r t) dm n (y_old a m N 0 M q) (fun z F G => x_RC a m z.2 F G ∧ F 10 9 = nI z.1) := ⟨_, rfl⟩
  rw [← hPo]
  refine x_Ct_w (by decide) (Nat.le_of_ble_eq_true rfl) ok90 [] 6 ?_
  refine Exists.intro _ (And.intro (c_isName hR hT.1 hq) (And.intro (And.intro (Nat.zero_le _) (Nat.zero_le _)) (fun q h' hpo => ?_)))
  obtain ⟨rfl, rfl⟩ := hpo
  cases e : y_nm a m q with
  | false =>
    refine And.intro (fun c => absurd rfl c) (fun _ => ?_)
    refine Exists.intro _ (And.intro (c_fail (k := 2) hR) (And.intro (And.intro (Nat.zero_le _) (Nat.zero_le _)) (fun q h' hpo => ?_)))
    obtain ⟨rfl, F, rfl, u1, u2⟩ := hpo
    refine And.intro ?_ ⟨Or.inl rfl, Nat.le_refl _, Nat.le_refl _⟩
    rw [hPo]
    exact x_PT_L (if_neg (by rw [e]; decide)) u1 u2
  | true =>
    obtain ⟨s1, s2, s3⟩ := y_nm_sa e
    have hl : g 10 5 = y_lt a m q := hR.2.2.2.2.2.2.2.1 s1 s3
    refine And.intro (fun _ => ?_) (fun c => absurd (show (1 : Int32) = 0 from c) (by decide))
    show ∃ P, x_Ct 33 (d + 1) [.ref 12, .long (g 10 5), .int 0] _ P ∧ _
    rw [hl]
    refine Exists.intro _ (And.intro (c_findName_12_0 hM hM5) (And.intro (And.intro (Nat.zero_le _) (Nat.zero_le _)) (fun q h' hpo => ?_)))
    obtain ⟨rfl, rfl⟩ := hpo
    rw [hN]
    have hR2 : ∀ x, x_RC a m q (x_up f 10 9 x) g := fun x => ⟨(x_up_k (by decide)).trans hR.1, hR.2⟩
    cases e2 : y_fd N (y_lt a m q) 0 M 0 with
    | none =>
      refine And.intro (fun c => absurd rfl c) (fun _ => ?_)
      refine Exists.intro _ (And.intro (c_fail (k := 3) (hR2 _)) (And.intro (And.intro (Nat.zero_le _) (Nat.zero_le _)) (fun q h' hpo => ?_)))
      obtain ⟨rfl, F, rfl, u1, u2⟩ := hpo
      refine And.intro ?_ ⟨Or.inl rfl, Nat.le_refl _, Nat.le_refl _⟩
      rw [hPo]
      refine x_PT_L (e := y_fl a m q 3) ?_ ⟨fun c hc => (u1.1 c hc).trans (x_up_k hc), u1.2⟩ u2
      unfold y_old
      rw [if_pos e, e2]
    | some k =>
      have h1 := y_fd_lt _ _ e2
      have h2 : ∀ k, k < 9 → ¬ nI k = -1 := by decide +kernel
      refine And.intro (fun _ => ?_) (fun c => absurd c (h2 k (by omega)))
      refine Exists.intro _ (And.intro (c_adv hT (hR2 _) (by rw [s1]; decide) (by rw [s1]; decide)) (And.intro (And.intro (Nat.zero_le _) (Nat.zero_le _)) (fun q h' hpo => ?_)))
      obtain ⟨rfl, F, G, rfl, u1, u2, u3⟩ := hpo
      refine And.intro ?_ ⟨Or.inr rfl, Nat.le_refl _, Nat.le_refl _⟩
      rw [hPo]
      refine x_PT_R (w := (k, y_nxt a m q)) ?_ ⟨fun c hc => (u1.1 c hc).trans (x_up_k hc), u1.2⟩ ⟨u3, ?_⟩
      · unfold y_old
        rw [if_pos e, e2]
      · rw [u2 9 (by decide), x_up_s]
        rfl
theorem c_takeOldName_12_4 {M : Nat} (hT : y_TP a m) (hq : q ≤ m) (hR : x_RC a m q f g) (hM : f 12 1 = nI M) (hM5 : M ≤ 5) (hN : y_fd (g 14) (y_lt a m q) 4 M 0 = y_fd N (y_lt a m q) 4 M 0) : x_Ct 90 (d + 2) [.ref 10, .ref 12, .int 4] (f, g, x_HR r t, dm, n) (x_PT f g (x_HR r t) dm n (y_old a m N 4 M q) (fun z F G => x_RC a m z.2 F G ∧ F 10 9 = nI z.1)) := by
  obtain ⟨Po, hPo⟩ : ∃ Po : Option Value → xH → Prop, Po = x_PT f g (x_HR r t) dm n (y_old a m N 4 M q) (fun z F G => x_RC a m z.2 F G ∧ F 10 9 = nI z.1) := ⟨_, rfl⟩
  rw [← hPo]
  refine x_Ct_w (by decide) (Nat.le_of_ble_eq_true rfl) ok90 [] 6 ?_
  refine Exists.intro _ (And.intro (c_isName hR hT.1 hq) (And.intro (And.intro (Nat.zero_le _) (Nat.zero_le _)) (fun q h' hpo => ?_)))
  obtain ⟨rfl, rfl⟩ := hpo
  cases e : y_nm a m q with
  | false =>
    refine And.intro (fun c => absurd rfl c) (fun _ => ?_)
    refine Exists.intro _ (And.intro (c_fail (k := 2) hR) (And.intro (And.intro (Nat.zero_le _) (Nat.zero_le _)) (fun q h' hpo => ?_)))
    obtain ⟨rfl, F, rfl, u1, u2⟩ := hpo
    refine And.intro ?_ ⟨Or.inl rfl, Nat.le_refl _, Nat.le_refl _⟩
    rw [hPo]
    exact x_PT_L (if_neg (by rw [e]; decide)) u1 u2
  | true =>
    obtain ⟨s1, s2, s3⟩ := y_nm_sa e
    have hl : g 10 5 = y_lt a m q := hR.2.2.2.2.2.2.2.1 s1 s3
    refine And.intro (fun _ => ?_) (fun c => absurd (show (1 : Int32) = 0 from c) (by decide))
    show ∃ P, x_Ct 33 (d + 1) [.ref 12, .long (g 10 5), .int 4] _ P ∧ _
    rw [hl]
    refine Exists.intro _ (And.intro (c_findName_12_4 hM hM5) (And.intro (And.intro (Nat.zero_le _) (Nat.zero_le _)) (fun q h' hpo => ?_)))
    obtain ⟨rfl, rfl⟩ := hpo
    rw [hN]
    have hR2 : ∀ x, x_RC a m q (x_up f 10 9 x) g := fun x => ⟨(x_up_k (by decide)).trans hR.1, hR.2⟩
    cases e2 : y_fd N (y_lt a m q) 4 M 0 with
    | none =>
      refine And.intro (fun c => absurd rfl c) (fun _ => ?_)
      refine Exists.intro _ (And.intro (c_fail (k := 3) (hR2 _)) (And.intro (And.intro (Nat.zero_le _) (Nat.zero_le _)) (fun q h' hpo => ?_)))
      obtain ⟨rfl, F, rfl, u1, u2⟩ := hpo
      refine And.intro ?_ ⟨Or.inl rfl, Nat.le_refl _, Nat.le_refl _⟩
      rw [hPo]
      refine x_PT_L (e := y_fl a m q 3) ?_ ⟨fun c hc => (u1.1 c hc).trans (x_up_k hc), u1.2⟩ u2
      unfold y_old
      rw [if_pos e, e2]
    | some k =>
      have h1 := y_fd_lt _ _ e2
      have h2 : ∀ k, k < 9 → ¬ nI k = -1 := by decide +kernel
      refine And.intro (fun _ => ?_) (fun c => absurd c (h2 k (by omega)))
      refine Exists.intro _ (And.intro (c_adv hT (hR2 _) (by rw [s1]; decide) (by rw [s1]; decide)) (And.intro (And.intro (Nat.zero_le _) (Nat.zero_le _)) (fun q h' hpo => ?_)))
      obtain ⟨rfl, F, G, rfl, u1, u2, u3⟩ := hpo
      refine And.intro ?_ ⟨Or.inr rfl, Nat.le_refl _, Nat.le_refl _⟩
      rw [hPo]
      refine x_PT_R (w := (k, y_nxt a m q)) ?_ ⟨fun c hc => (u1.1 c hc).trans (x_up_k hc), u1.2⟩ ⟨u3, ?_⟩
      · unfold y_old
        rw [if_pos e, e2]
      · rw [u2 9 (by decide), x_up_s]
        rfl
theorem c_takeOldName_12_9 {M : Nat} (hT : y_TP a m) (hq : q ≤ m) (hR : x_RC a m q f g) (hM : f 12 2 = nI M) (hM5 : M ≤ 5) (hN : y_fd (g 14) (y_lt a m q) 9 M 0 = y_fd N (y_lt a m q) 9 M 0) : x_Ct 90 (d + 2) [.ref 10, .ref 12, .int 9] (f, g, x_HR r t, dm, n) (x_PT f g (x_HR r t) dm n (y_old a m N 9 M q) (fun z F G => x_RC a m z.2 F G ∧ F 10 9 = nI z.1)) := by
  obtain ⟨Po, hPo⟩ : ∃ Po : Option Value → xH → Prop, Po = x_PT f g (x_HR r t) dm n (y_old a m N 9 M q) (fun z F G => x_RC a m z.2 F G ∧ F 10 9 = nI z.1) := ⟨_, rfl⟩
  rw [← hPo]
  refine x_Ct_w (by decide) (Nat.le_of_ble_eq_true rfl) ok90 [] 6 ?_
  refine Exists.intro _ (And.intro (c_isName hR hT.1 hq) (And.intro (And.intro (Nat.zero_le _) (Nat.zero_le _)) (fun q h' hpo => ?_)))
  obtain ⟨rfl, rfl⟩ := hpo
  cases e : y_nm a m q with
  | false =>
    refine And.intro (fun c => absurd rfl c) (fun _ => ?_)
    refine Exists.intro _ (And.intro (c_fail (k := 2) hR) (And.intro (And.intro (Nat.zero_le _) (Nat.zero_le _)) (fun q h' hpo => ?_)))
    obtain ⟨rfl, F, rfl, u1, u2⟩ := hpo
    refine And.intro ?_ ⟨Or.inl rfl, Nat.le_refl _, Nat.le_refl _⟩
    rw [hPo]
    exact x_PT_L (if_neg (by rw [e]; decide)) u1 u2
  | true =>
    obtain ⟨s1, s2, s3⟩ := y_nm_sa e
    have hl : g 10 5 = y_lt a m q := hR.2.2.2.2.2.2.2.1 s1 s3
    refine And.intro (fun _ => ?_) (fun c => absurd (show (1 : Int32) = 0 from c) (by decide))
    show ∃ P, x_Ct 33 (d + 1) [.ref 12, .long (g 10 5), .int 9] _ P ∧ _
    rw [hl]
    refine Exists.intro _ (And.intro (c_findName_12_9 hM hM5) (And.intro (And.intro (Nat.zero_le _) (Nat.zero_le _)) (fun q h' hpo => ?_)))
    obtain ⟨rfl, rfl⟩ := hpo
    rw [hN]
    have hR2 : ∀ x, x_RC a m q (x_up f 10 9 x) g := fun x => ⟨(x_up_k (by decide)).trans hR.1, hR.2⟩
    cases e2 : y_fd N (y_lt a m q) 9 M 0 with
    | none =>
      refine And.intro (fun c => absurd rfl c) (fun _ => ?_)
      refine Exists.intro _ (And.intro (c_fail (k := 3) (hR2 _)) (And.intro (And.intro (Nat.zero_le _) (Nat.zero_le _)) (fun q h' hpo => ?_)))
      obtain ⟨rfl, F, rfl, u1, u2⟩ := hpo
      refine And.intro ?_ ⟨Or.inl rfl, Nat.le_refl _, Nat.le_refl _⟩
      rw [hPo]
      refine x_PT_L (e := y_fl a m q 3) ?_ ⟨fun c hc => (u1.1 c hc).trans (x_up_k hc), u1.2⟩ u2
      unfold y_old
      rw [if_pos e, e2]
    | some k =>
      have h1 := y_fd_lt _ _ e2
      have h2 : ∀ k, k < 9 → ¬ nI k = -1 := by decide +kernel
      refine And.intro (fun _ => ?_) (fun c => absurd c (h2 k (by omega)))
      refine Exists.intro _ (And.intro (c_adv hT (hR2 _) (by rw [s1]; decide) (by rw [s1]; decide)) (And.intro (And.intro (Nat.zero_le _) (Nat.zero_le _)) (fun q h' hpo => ?_)))
      obtain ⟨rfl, F, G, rfl, u1, u2, u3⟩ := hpo
      refine And.intro ?_ ⟨Or.inr rfl, Nat.le_refl _, Nat.le_refl _⟩
      rw [hPo]
      refine x_PT_R (w := (k, y_nxt a m q)) ?_ ⟨fun c hc => (u1.1 c hc).trans (x_up_k hc), u1.2⟩ ⟨u3, ?_⟩
      · unfold y_old
        rw [if_pos e, e2]
      · rw [u2 9 (by decide), x_up_s]
        rfl
theorem c_takeOldName_22_0 {M : Nat} (hT : y_TP a m) (hq : q ≤ m) (hR : x_RC a m q f g) (hM : f 22 0 = nI M) (hM5 : M ≤ 4) (hN : y_fd (g 24) (y_lt a m q) 0 M 0 = y_fd N (y_lt a m q) 0 M 0) : x_Ct 90 (d + 2) [.ref 10, .ref 22, .int 0] (f, g, x_HR r t, dm, n) (x_PT f g (x_HR r t) dm n (y_old a m N 0 M q) (fun z F G => x_RC a m z.2 F G ∧ F 10 9 = nI z.1)) := by
  obtain ⟨Po, hPo⟩ : ∃ Po : Option Value → xH → Prop, Po = x_PT f g (x_HR r t) dm n (y_old a m N 0 M q) (fun z F G => x_RC a m z.2 F G ∧ F 10 9 = nI z.1) := ⟨_, rfl⟩
  rw [← hPo]
  refine x_Ct_w (by decide) (Nat.le_of_ble_eq_true rfl) ok90 [] 6 ?_
  refine Exists.intro _ (And.intro (c_isName hR hT.1 hq) (And.intro (And.intro (Nat.zero_le _) (Nat.zero_le _)) (fun q h' hpo => ?_)))
  obtain ⟨rfl, rfl⟩ := hpo
  cases e : y_nm a m q with
  | false =>
    refine And.intro (fun c => absurd rfl c) (fun _ => ?_)
    refine Exists.intro _ (And.intro (c_fail (k := 2) hR) (And.intro (And.intro (Nat.zero_le _) (Nat.zero_le _)) (fun q h' hpo => ?_)))
    obtain ⟨rfl, F, rfl, u1, u2⟩ := hpo
    refine And.intro ?_ ⟨Or.inl rfl, Nat.le_refl _, Nat.le_refl _⟩
    rw [hPo]
    exact x_PT_L (if_neg (by rw [e]; decide)) u1 u2
  | true =>
    obtain ⟨s1, s2, s3⟩ := y_nm_sa e
    have hl : g 10 5 = y_lt a m q := hR.2.2.2.2.2.2.2.1 s1 s3
    refine And.intro (fun _ => ?_) (fun c => absurd (show (1 : Int32) = 0 from c) (by decide))
    show ∃ P, x_Ct 33 (d + 1) [.ref 22, .long (g 10 5), .int 0] _ P ∧ _
    rw [hl]
    refine Exists.intro _ (And.intro (c_findName_22_0 hM hM5) (And.intro (And.intro (Nat.zero_le _) (Nat.zero_le _)) (fun q h' hpo => ?_)))
    obtain ⟨rfl, rfl⟩ := hpo
    rw [hN]
    have hR2 : ∀ x, x_RC a m q (x_up f 10 9 x) g := fun x => ⟨(x_up_k (by decide)).trans hR.1, hR.2⟩
    cases e2 : y_fd N (y_lt a m q) 0 M 0 with
    | none =>
      refine And.intro (fun c => absurd rfl c) (fun _ => ?_)
      refine Exists.intro _ (And.intro (c_fail (k := 3) (hR2 _)) (And.intro (And.intro (Nat.zero_le _) (Nat.zero_le _)) (fun q h' hpo => ?_)))
      obtain ⟨rfl, F, rfl, u1, u2⟩ := hpo
      refine And.intro ?_ ⟨Or.inl rfl, Nat.le_refl _, Nat.le_refl _⟩
      rw [hPo]
      refine x_PT_L (e := y_fl a m q 3) ?_ ⟨fun c hc => (u1.1 c hc).trans (x_up_k hc), u1.2⟩ u2
      unfold y_old
      rw [if_pos e, e2]
    | some k =>
      have h1 := y_fd_lt _ _ e2
      have h2 : ∀ k, k < 9 → ¬ nI k = -1 := by decide +kernel
      refine And.intro (fun _ => ?_) (fun c => absurd c (h2 k (by omega)))
      refine Exists.intro _ (And.intro (c_adv hT (hR2 _) (by rw [s1]; decide) (by rw [s1]; decide)) (And.intro (And.intro (Nat.zero_le _) (Nat.zero_le _)) (fun q h' hpo => ?_)))
      obtain ⟨rfl, F, G, rfl, u1, u2, u3⟩ := hpo
      refine And.intro ?_ ⟨Or.inr rfl, Nat.le_refl _, Nat.le_refl _⟩
      rw [hPo]
      refine x_PT_R (w := (k, y_nxt a m q)) ?_ ⟨fun c hc => (u1.1 c hc).trans (x_up_k hc), u1.2⟩ ⟨u3, ?_⟩
      · unfold y_old
        rw [if_pos e, e2]
      · rw [u2 9 (by decide), x_up_s]
        rfl
theorem c_takeOldName_22_4 {M : Nat} (hT : y_TP a m) (hq : q ≤ m) (hR : x_RC a m q f g) (hM : f 22 1 = nI M) (hM5 : M ≤ 5) (hN : y_fd (g 24) (y_lt a m q) 4 M 0 = y_fd N (y_lt a m q) 4 M 0) : x_Ct 90 (d + 2) [.ref 10, .ref 22, .int 4] (f, g, x_HR r t, dm, n) (x_PT f g (x_HR r t) dm n (y_old a m N 4 M q) (fun z F G => x_RC a m z.2 F G ∧ F 10 9 = nI z.1)) := by
  obtain ⟨Po, hPo⟩ : ∃ Po : Option Value → xH → Prop, Po = x_PT f g (x_HR r t) dm n (y_old a m N 4 M q) (fun z F G => x_RC a m z.2 F G ∧ F 10 9 = nI z.1) := ⟨_, rfl⟩
  rw [← hPo]
  refine x_Ct_w (by decide) (Nat.le_of_ble_eq_true rfl) ok90 [] 6 ?_
  refine Exists.intro _ (And.intro (c_isName hR hT.1 hq) (And.intro (And.intro (Nat.zero_le _) (Nat.zero_le _)) (fun q h' hpo => ?_)))
  obtain ⟨rfl, rfl⟩ := hpo
  cases e : y_nm a m q with
  | false =>
    refine And.intro (fun c => absurd rfl c) (fun _ => ?_)
    refine Exists.intro _ (And.intro (c_fail (k := 2) hR) (And.intro (And.intro (Nat.zero_le _) (Nat.zero_le _)) (fun q h' hpo => ?_)))
    obtain ⟨rfl, F, rfl, u1, u2⟩ := hpo
    refine And.intro ?_ ⟨Or.inl rfl, Nat.le_refl _, Nat.le_refl _⟩
    rw [hPo]
    exact x_PT_L (if_neg (by rw [e]; decide)) u1 u2
  | true =>
    obtain ⟨s1, s2, s3⟩ := y_nm_sa e
    have hl : g 10 5 = y_lt a m q := hR.2.2.2.2.2.2.2.1 s1 s3
    refine And.intro (fun _ => ?_) (fun c => absurd (show (1 : Int32) = 0 from c) (by decide))
    show ∃ P, x_Ct 33 (d + 1) [.ref 22, .long (g 10 5), .int 4] _ P ∧ _
    rw [hl]
    refine Exists.intro _ (And.intro (c_findName_22_4 hM hM5) (And.intro (And.intro (Nat.zero_le _) (Nat.zero_le _)) (fun q h' hpo => ?_)))
    obtain ⟨rfl, rfl⟩ := hpo
    rw [hN]
    have hR2 : ∀ x, x_RC a m q (x_up f 10 9 x) g := fun x => ⟨(x_up_k (by decide)).trans hR.1, hR.2⟩
    cases e2 : y_fd N (y_lt a m q) 4 M 0 with
    | none =>
      refine And.intro (fun c => absurd rfl c) (fun _ => ?_)
      refine Exists.intro _ (And.intro (c_fail (k := 3) (hR2 _)) (And.intro (And.intro (Nat.zero_le _) (Nat.zero_le _)) (fun q h' hpo => ?_)))
      obtain ⟨rfl, F, rfl, u1, u2⟩ := hpo
      refine And.intro ?_ ⟨Or.inl rfl, Nat.le_refl _, Nat.le_refl _⟩
      rw [hPo]
      refine x_PT_L (e := y_fl a m q 3) ?_ ⟨fun c hc => (u1.1 c hc).trans (x_up_k hc), u1.2⟩ u2
      unfold y_old
      rw [if_pos e, e2]
    | some k =>
      have h1 := y_fd_lt _ _ e2
      have h2 : ∀ k, k < 9 → ¬ nI k = -1 := by decide +kernel
      refine And.intro (fun _ => ?_) (fun c => absurd c (h2 k (by omega)))
      refine Exists.intro _ (And.intro (c_adv hT (hR2 _) (by rw [s1]; decide) (by rw [s1]; decide)) (And.intro (And.intro (Nat.zero_le _) (Nat.zero_le _)) (fun q h' hpo => ?_)))
      obtain ⟨rfl, F, G, rfl, u1, u2, u3⟩ := hpo
      refine And.intro ?_ ⟨Or.inr rfl, Nat.le_refl _, Nat.le_refl _⟩
      rw [hPo]
      refine x_PT_R (w := (k, y_nxt a m q)) ?_ ⟨fun c hc => (u1.1 c hc).trans (x_up_k hc), u1.2⟩ ⟨u3, ?_⟩
      · unfold y_old
        rw [if_pos e, e2]
      · rw [u2 9 (by decide), x_up_s]
        rfl
theorem c_takeOldName_22_9 {M : Nat} (hT : y_TP a m) (hq : q ≤ m) (hR : x_RC a m q f g) (hM : f 22 2 = nI M) (hM5 : M ≤ 5) (hN : y_fd (g 24) (y_lt a m q) 9 M 0 = y_fd N (y_lt a m q) 9 M 0) : x_Ct 90 (d + 2) [.ref 10, .ref 22, .int 9] (f, g, x_HR r t, dm, n) (x_PT f g (x_HR r t) dm n (y_old a m N 9 M q) (fun z F G => x_RC a m z.2 F G ∧ F 10 9 = nI z.1)) := by
  obtain ⟨Po, hPo⟩ : ∃ Po : Option Value → xH → Prop, Po = x_PT f g (x_HR r t) dm n (y_old a m N 9 M q) (fun z F G => x_RC a m z.2 F G ∧ F 10 9 = nI z.1) := ⟨_, rfl⟩
  rw [← hPo]
  refine x_Ct_w (by decide) (Nat.le_of_ble_eq_true rfl) ok90 [] 6 ?_
  refine Exists.intro _ (And.intro (c_isName hR hT.1 hq) (And.intro (And.intro (Nat.zero_le _) (Nat.zero_le _)) (fun q h' hpo => ?_)))
  obtain ⟨rfl, rfl⟩ := hpo
  cases e : y_nm a m q with
  | false =>
    refine And.intro (fun c => absurd rfl c) (fun _ => ?_)
    refine Exists.intro _ (And.intro (c_fail (k := 2) hR) (And.intro (And.intro (Nat.zero_le _) (Nat.zero_le _)) (fun q h' hpo => ?_)))
    obtain ⟨rfl, F, rfl, u1, u2⟩ := hpo
    refine And.intro ?_ ⟨Or.inl rfl, Nat.le_refl _, Nat.le_refl _⟩
    rw [hPo]
    exact x_PT_L (if_neg (by rw [e]; decide)) u1 u2
  | true =>
    obtain ⟨s1, s2, s3⟩ := y_nm_sa e
    have hl : g 10 5 = y_lt a m q := hR.2.2.2.2.2.2.2.1 s1 s3
    refine And.intro (fun _ => ?_) (fun c => absurd (show (1 : Int32) = 0 from c) (by decide))
    show ∃ P, x_Ct 33 (d + 1) [.ref 22, .long (g 10 5), .int 9] _ P ∧ _
    rw [hl]
    refine Exists.intro _ (And.intro (c_findName_22_9 hM hM5) (And.intro (And.intro (Nat.zero_le _) (Nat.zero_le _)) (fun q h' hpo => ?_)))
    obtain ⟨rfl, rfl⟩ := hpo
    rw [hN]
    have hR2 : ∀ x, x_RC a m q (x_up f 10 9 x) g := fun x => ⟨(x_up_k (by decide)).trans hR.1, hR.2⟩
    cases e2 : y_fd N (y_lt a m q) 9 M 0 with
    | none =>
      refine And.intro (fun c => absurd rfl c) (fun _ => ?_)
      refine Exists.intro _ (And.intro (c_fail (k := 3) (hR2 _)) (And.intro (And.intro (Nat.zero_le _) (Nat.zero_le _)) (fun q h' hpo => ?_)))
      obtain ⟨rfl, F, rfl, u1, u2⟩ := hpo
      refine And.intro ?_ ⟨Or.inl rfl, Nat.le_refl _, Nat.le_refl _⟩
      rw [hPo]
      refine x_PT_L (e := y_fl a m q 3) ?_ ⟨fun c hc => (u1.1 c hc).trans (x_up_k hc), u1.2⟩ u2
      unfold y_old
      rw [if_pos e, e2]
    | some k =>
      have h1 := y_fd_lt _ _ e2
      have h2 : ∀ k, k < 9 → ¬ nI k = -1 := by decide +kernel
      refine And.intro (fun _ => ?_) (fun c => absurd c (h2 k (by omega)))
      refine Exists.intro _ (And.intro (c_adv hT (hR2 _) (by rw [s1]; decide) (by rw [s1]; decide)) (And.intro (And.intro (Nat.zero_le _) (Nat.zero_le _)) (fun q h' hpo => ?_)))
      obtain ⟨rfl, F, G, rfl, u1, u2, u3⟩ := hpo
      refine And.intro ?_ ⟨Or.inr rfl, Nat.le_refl _, Nat.le_refl _⟩
      rw [hPo]
      refine x_PT_R (w := (k, y_nxt a m q)) ?_ ⟨fun c hc => (u1.1 c hc).trans (x_up_k hc), u1.2⟩ ⟨u3, ?_⟩
      · unfold y_old
        rw [if_pos e, e2]
      · rw [u2 9 (by decide), x_up_s]
        rfl
theorem c_open {k : Nat} (hk : k ≤ 900) (hb : ∀ j, j < k → y_byt (f 11 j)) : x_Ct 80 (d + 2) [.ref 10, .int (nI k)] (f, g, x_HR r t, dm, n) (fun z h' => z = none ∧ ∃ F G, h' = (F, G, x_HR r t, dm, n) ∧ x_f10 f g F G ∧ x_RC (f 11) k (y_skip (f 11) k 0) F G) := by
  refine x_Ct_w (by decide) (Nat.le_of_ble_eq_true rfl) ok80 [8] 6 ?_
  have e : (if nI 900 < nI k then nI 900 else nI k) = nI k := if_neg (nI_nlt hk (by decide))
  show x_J 80 (d + 2) _ 8 [some (.ref 10), some (.int (nI k))] [.int (if nI 900 < nI k then nI 900 else nI k), .ref 10] (f, g, x_HR r t, dm, n) 0 0
  rw [e]
  refine x_wp_ok ok80 [] 6 ?_
  refine Exists.intro _ (And.intro (c_advance (p := 0) (m := k) rfl hk rfl (Nat.zero_le _) hb) (And.intro (And.intro (Nat.zero_le _) (Nat.zero_le _)) (fun q h' hpo => ?_)))
  obtain ⟨rfl, F, G, rfl, u1, u2, u3, u4⟩ := hpo
  refine And.intro ?_ ⟨trivial, Nat.le_refl _, Nat.le_refl _⟩
  refine ⟨rfl, F, G, rfl, ⟨fun c hc => (u1 c hc).trans ((x_up_k hc).trans ((x_up_k hc).trans ((x_up_k hc).trans (x_up_k hc)))), u2⟩, (u1 11 (by decide)), u4⟩
end C78
