/-! THE MODEL: trays -/
theorem x_isub {x y : Int32} (h1 : -2147483648 ≤ x.toInt - y.toInt) (h2 : x.toInt - y.toInt < 2147483648) : (x - y).toInt = x.toInt - y.toInt := by
  rw [Int32.toInt_sub, Int.bmod_eq_of_le (by omega) (by omega)]
section C54
variable {f : Nat → Nat → Int32} {g : Nat → Nat → Int64} {r t : Nat} {ρ : Nat → Nat → Option Nat} {dm : List Nat} {n d N : Nat} {v : xV} {h : xH} {T : xT}
theorem x_QN_S {F : Nat → Nat → Int32} {G : Nat → Nat → Int64} {T' : xT} (hT : x_TM F G T') (h1 : ∀ k, k ≠ 503 → k ≠ 504 → F k = f k) (h2 : ∀ k, k ≠ 505 → G k = g k) {w : Value} {s : Int32} : x_QN f g ρ dm n (w, s, T') (some w) (x_up F 500 2 s, G, ρ, dm, n) := by
  refine ⟨_, _, rfl, rfl, fun i hi => ?_, x_up_s _ _ _ _, fun j hj => ?_, fun k h0 h3 h4 => ?_, h2⟩
  · rw [x_up_k (by decide), x_up_k (by decide)]
    exact hT i hi
  · rw [x_up_j hj, h1 500 (by decide) (by decide)]
  · rw [x_up_k h0, h1 k h3 h4]
theorem x_QN_0 (hT : x_TM f g T) {w : Value} {s : Int32} : x_QN f g ρ dm n (w, s, T) (some w) (x_up f 500 2 s, g, ρ, dm, n) := x_QN_S hT (fun _ _ _ => rfl) (fun _ _ => rfl)
theorem x_TM_set (hT : x_TM f g T) {F : Nat → Nat → Int32} {G : Nat → Nat → Int64} {i : Nat} {c : Option (Nat × Nat)} {u : Nat → Int64} (h1 : ∀ j, j ≠ i → F 503 j = f 503 j ∧ F 504 j = f 504 j) (h2 : ∀ j k, j ≠ i → k < 60 → G 505 (60 * j + k) = g 505 (60 * j + k)) (h3 : x_t1 (F 504 i) (F 503 i) (fun j => G 505 (60 * i + j)) c u) : x_TM F G (u_set T i c u) := by
  intro j hj
  show x_t1 _ _ _ (va_up T.1 i c j) (va_up T.2 i u j)
  by_cases e : j = i
  · subst e
    rw [x_us, x_us]
    exact h3
  · rw [x_un e, x_un e, (h1 j e).1, (h1 j e).2]
    have h4 := hT j hj
    cases ho : T.1 j with
    | none =>
      rw [ho] at h4
      exact h4
    | some c =>
      rw [ho] at h4
      obtain ⟨a1, a2, a3, a4, a5⟩ := h4
      exact ⟨a1, a2, a3, a4, fun k hk => (h2 j k e (by omega)).trans (a5 k hk)⟩
theorem m_isTray {x : Int32} : x_V 184 d [.int x] h (.int (x_bo (x_wi x 0 3))) h := by
  refine x_Ct_w (by decide) (Nat.le_of_ble_eq_true rfl) ok184 [] 6 ?_
  refine And.intro (fun c => ?_) (fun c => ?_)
  · have c : x < 0 := c
    exact And.intro ⟨(by rw [x_wi_f1 c]; rfl), rfl⟩ ⟨Or.inl rfl, Nat.le_refl _, Nat.le_refl _⟩
  · have c : ¬ x < 0 := c
    refine And.intro (fun c2 => ?_) (fun c2 => ?_)
    · have c2 : 4 ≤ x := c2
      have hb : x_wi x 0 3 = false := x_wi_f2 (by rw [x_le] at c2 ⊢; have e4 : (4 : Int32).toInt = 4 := rfl; have e3 : (3 : Int32).toInt = 3 := rfl; omega)
      exact And.intro ⟨(by rw [hb]; rfl), rfl⟩ ⟨Or.inl rfl, Nat.le_refl _, Nat.le_refl _⟩
    · have c2 : ¬ 4 ≤ x := c2
      have hb : x_wi x 0 3 = true := x_wi_tt c (by rw [x_le] at c2 ⊢; have e4 : (4 : Int32).toInt = 4 := rfl; have e3 : (3 : Int32).toInt = 3 := rfl; omega)
      exact And.intro ⟨(by rw [hb]; rfl), rfl⟩ ⟨Or.inr rfl, Nat.le_refl _, Nat.le_refl _⟩
theorem m_cut {s : Int32} {w : Int64} : x_V 185 d [.long w, .int s] h (.long (y_cut s w)) h := by
  refine x_Ct_w (by decide) (Nat.le_of_ble_eq_true rfl) ok185 [] 8 ?_
  unfold y_cut
  refine And.intro (fun c0 => ?_) (fun c0 => ?_)
  · have c0 : ¬ s = 0 := c0
    rw [if_neg c0]
    refine And.intro (fun c1 => ?_) (fun c1 => ?_)
    · have c1 : ¬ s = 1 := c1
      rw [if_neg c1]
      refine And.intro (fun c2 => ?_) (fun c2 => ?_)
      · have c2 : ¬ s = 2 := c2
        rw [if_neg c2]
        exact And.intro ⟨rfl, rfl⟩ ⟨trivial, Nat.le_refl _, Nat.le_refl _⟩
      · have c2 : s = 2 := c2
        rw [if_pos c2]
        exact And.intro ⟨rfl, rfl⟩ ⟨trivial, Nat.le_refl _, Nat.le_refl _⟩
    · have c1 : s = 1 := c1
      rw [if_pos c1]
      exact And.intro ⟨rfl, rfl⟩ ⟨trivial, Nat.le_refl _, Nat.le_refl _⟩
  · have c0 : s = 0 := c0
    rw [if_pos c0]
    exact And.intro ⟨rfl, rfl⟩ ⟨trivial, Nat.le_refl _, Nat.le_refl _⟩
theorem m_tray {x y z : Int32} (hT : x_TM f g T) : x_Ct 186 (d + 1) [.ref 500, .int x, .int y, .int z] (f, g, x_HR r t, dm, n) (x_QN f g (x_HR r t) dm n (st_tray T x y z)) := by
  have no : ∀ b : Bool, b = false → (x_wi x 0 3 && (x_wi y 0 3 && x_wi z 0 60)) = b → st_tray T x y z = (.int 0, 1, T) := fun b hb e => by
    unfold st_tray
    rw [e, hb]
    exact if_neg (by decide)
  refine x_Ct_w (by decide) (Nat.le_of_ble_eq_true rfl) ok186 [49] 10 ?_
  refine Exists.intro _ (And.intro m_isTray (And.intro (And.intro (Nat.zero_le _) (Nat.zero_le _)) (fun q h' hpo => ?_)))
  obtain ⟨rfl, rfl⟩ := hpo
  cases hx : x_wi x 0 3 with
  | false =>
    rw [no false rfl (by rw [hx]; rfl)]
    refine And.intro (fun _ => ?_) (fun c => absurd rfl c)
    refine Exists.intro _ (And.intro m_is (And.intro (And.intro (Nat.zero_le _) (Nat.zero_le _)) (fun q h' hpo => ?_)))
    obtain ⟨rfl, rfl⟩ := hpo
    refine And.intro ?_ ⟨Or.inl rfl, Nat.le_refl _, Nat.le_refl _⟩
    exact x_QN_0 hT
  | true =>
    refine And.intro (fun c => absurd c (by decide)) (fun _ => ?_)
    refine And.intro (fun c1 => ?_) (fun c1 => ?_)
    · have c1 : y < 0 := c1
      rw [no false rfl (by rw [hx, x_wi_f1 c1]; rfl)]
      refine Exists.intro _ (And.intro m_is (And.intro (And.intro (Nat.zero_le _) (Nat.zero_le _)) (fun q h' hpo => ?_)))
      obtain ⟨rfl, rfl⟩ := hpo
      refine And.intro ?_ ⟨Or.inl rfl, Nat.le_refl _, Nat.le_refl _⟩
      exact x_QN_0 hT
    · have c1 : ¬ y < 0 := c1
      refine And.intro (fun c2 => ?_) (fun c2 => ?_)
      · have c2 : 3 < y := c2
        rw [no false rfl (by rw [hx, x_wi_f2 (Int32.not_le.mpr c2)]; rfl)]
        refine Exists.intro _ (And.intro m_is (And.intro (And.intro (Nat.zero_le _) (Nat.zero_le _)) (fun q h' hpo => ?_)))
        obtain ⟨rfl, rfl⟩ := hpo
        refine And.intro ?_ ⟨Or.inl rfl, Nat.le_refl _, Nat.le_refl _⟩
        exact x_QN_0 hT
      · have c2 : ¬ 3 < y := c2
        have hy : x_wi y 0 3 = true := x_wi_tt c1 (Int32.not_lt.mp c2)
        refine And.intro (fun c3 => ?_) (fun c3 => ?_)
        · have c3 : z < 0 := c3
          rw [no false rfl (by rw [hx, hy, x_wi_f1 c3]; rfl)]
          refine Exists.intro _ (And.intro m_is (And.intro (And.intro (Nat.zero_le _) (Nat.zero_le _)) (fun q h' hpo => ?_)))
          obtain ⟨rfl, rfl⟩ := hpo
          refine And.intro ?_ ⟨Or.inl rfl, Nat.le_refl _, Nat.le_refl _⟩
          exact x_QN_0 hT
        · have c3 : ¬ z < 0 := c3
          refine And.intro (fun c4 => ?_) (fun c4 => ?_)
          · have c4 : z ≤ 60 := c4
            have hz : x_wi z 0 60 = true := x_wi_tt c3 c4
            have ok : st_tray T x y z = (.int 1, 0, u_set T (x_c x) (some (x_c y, x_c z)) (fun _ => 0)) := by
              unfold st_tray
              rw [hx, hy, hz]
              exact if_pos (by decide)
            rw [ok]
            obtain ⟨i, hi1, hi, rfl⟩ := x_wi_t (lo := 0) (hi := 3) hx (by decide) (by decide)
            obtain ⟨s, hs1, hs, rfl⟩ := x_wi_t (lo := 0) (hi := 3) hy (by decide) (by decide)
            obtain ⟨m, hm1, hm, rfl⟩ := x_wi_t (lo := 0) (hi := 60) hz (by decide) (by decide)
            rw [show x_c (nI i) = i from nI_clamp (by omega), show x_c (nI s) = s from nI_clamp (by omega), show x_c (nI m) = m from nI_clamp (by omega)]
            refine And.intro (x_ix_nI (by omega) (by omega)) ?_
            rw [nI_clamp (by omega)]
            refine And.intro (x_ix_nI (by omega) (by omega)) ?_
            rw [nI_clamp (by omega)]
            have loop : ∀ p k G, k + p = m → (∀ q, q ≠ 505 → G q = g q) → (∀ q, (q < 60 * i ∨ 60 * i + 60 ≤ q) → G 505 q = g 505 q) → (∀ j, j < k → G 505 (60 * i + j) = 0) → x_J 186 (d + 1) (x_QN f g (x_HR r t) dm n (.int 1, 0, u_set T i (some (s, m)) (fun _ => 0))) 49 [some (.ref 500), some (.int (nI i)), some (.int (nI s)), some (.int (nI m)), some (.int (nI k))] [] (x_up (x_up f 503 i (nI s)) 504 i (nI m), G, x_HR r t, dm, n) 0 0 := by
              intro p
              induction p with
              | zero =>
                intro k G hk q1 q2 q3
                obtain rfl : k = m := by omega
                refine x_wp_ok ok186 [49] 6 ?_
                refine And.intro (fun cc => ?_) (fun cc => ?_)
                · refine Exists.intro _ (And.intro m_is (And.intro (And.intro (Nat.zero_le _) (Nat.zero_le _)) (fun q h' hpo => ?_)))
                  obtain ⟨rfl, rfl⟩ := hpo
                  refine And.intro ?_ ⟨Or.inr rfl, Nat.le_refl _, Nat.le_refl _⟩
                  refine x_QN_S (x_TM_set (F := x_up (x_up f 503 i (nI s)) 504 i (nI k)) (i := i) (c := some (s, k)) (u := fun _ => 0) hT (fun j hj => ⟨?_, ?_⟩) (fun j q hj hq => q2 _ (by omega)) ⟨x_up_s _ _ _ _, ?_, hs, hm, q3⟩) (fun q h1 h2 => ?_) q1
                  · rw [x_up_k (by decide), x_up_j hj]
                  · rw [x_up_j hj, x_up_k (by decide)]
                  · rw [x_up_k (by decide), x_up_s]
                  · rw [x_up_k h2, x_up_k h1]
                · have cc : ¬ nI k ≤ nI k := cc
                  rw [nI_leI (by omega) (by omega)] at cc
                  omega
              | succ p ih =>
                intro k G hk q1 q2 q3
                have ei : nI 60 * nI i + nI k = nI (60 * i + k) := by rw [pk_mul, nI_add]
                refine x_wp_ok ok186 [49] 6 ?_
                refine And.intro (fun cc => ?_) (fun cc => ?_)
                · have cc : nI m ≤ nI k := cc
                  rw [nI_leI (by omega) (by omega)] at cc
                  omega
                · refine And.intro (by show x_ix (nI 60 * nI i + nI k) 240; rw [ei]; exact x_ix_nI (by omega) (by omega)) ?_
                  have e := ih (k + 1) (x_up G 505 (60 * i + k) 0) (by omega) (fun q hq => by rw [x_up_k hq]; exact q1 q hq) (fun q hq => by rw [x_up_j (by omega)]; exact q2 q hq) (fun j hj => by
                    by_cases e : j = k
                    · subst e
                      rw [x_up_s]
                    · rw [x_up_j (by omega)]
                      exact q3 j (by omega))
                  rw [nI_succ k, ← nI_clamp (show 60 * i + k < 2 ^ 31 by omega), ← ei] at e
                  exact e
            exact loop m 0 g (Nat.zero_add _) (fun _ _ => rfl) (fun _ _ => rfl) (fun j hj => by omega)
          · have c4 : ¬ z ≤ 60 := c4
            rw [no false rfl (by rw [hx, hy, x_wi_f2 c4]; rfl)]
            refine Exists.intro _ (And.intro m_is (And.intro (And.intro (Nat.zero_le _) (Nat.zero_le _)) (fun q h' hpo => ?_)))
            obtain ⟨rfl, rfl⟩ := hpo
            refine And.intro ?_ ⟨Or.inl rfl, Nat.le_refl _, Nat.le_refl _⟩
            exact x_QN_0 hT
theorem m_wrongPlace {x y : Int32} (hT : x_TM f g T) : x_V 187 (d + 1) [.ref 500, .int x, .int y] (f, g, x_HR r t, dm, n) (.int (y_wp T x y)) (f, g, x_HR r t, dm, n) := by
  refine x_Ct_w (by decide) (Nat.le_of_ble_eq_true rfl) ok187 [] 8 ?_
  refine Exists.intro _ (And.intro m_isTray (And.intro (And.intro (Nat.zero_le _) (Nat.zero_le _)) (fun q h' hpo => ?_)))
  obtain ⟨rfl, rfl⟩ := hpo
  cases hx : x_wi x 0 3 with
  | false =>
    rw [show y_wp T x y = 1 from if_neg (x_wi_n3 hx)]
    refine And.intro (fun c => absurd rfl c) (fun _ => ?_)
    exact And.intro ⟨rfl, rfl⟩ ⟨trivial, Nat.le_refl _, Nat.le_refl _⟩
  | true =>
    refine And.intro (fun _ => ?_) (fun c => absurd c (by decide))
    obtain ⟨i, hi1, hi, rfl⟩ := x_wi_t (lo := 0) (hi := 3) hx (by decide) (by decide)
    have h1 := hT i (by omega)
    have ew : y_wp T (nI i) y = (match T.1 i with | none => 2 | some c => if x_ixb y c.2 = true then 0 else 3) := by
      unfold y_wp
      rw [hx, if_pos rfl, show x_c (nI i) = i from nI_clamp (by omega)]
      cases T.1 i <;> rfl
    rw [ew]
    refine And.intro (x_ix_nI (by omega) (by omega)) ?_
    rw [nI_clamp (by omega)]
    cases ho : T.1 i with
    | none =>
      rw [ho] at h1
      have h1 : f 504 i = -1 := h1
      refine And.intro (fun c => absurd h1 c) (fun _ => ?_)
      exact And.intro ⟨rfl, rfl⟩ ⟨trivial, Nat.le_refl _, Nat.le_refl _⟩
    | some c =>
      rw [ho] at h1
      obtain ⟨a1, a2, a3, a4, a5⟩ := h1
      refine And.intro (fun _ => ?_) (fun c => absurd (a1.symm.trans c) (x_nIm (by omega)))
      dsimp only
      refine And.intro (fun c1 => ?_) (fun c1 => ?_)
      · have c1 : y < 0 := c1
        rw [x_lt, x_i0] at c1
        exact And.intro ⟨(by rw [if_neg (by simp only [x_ixb, Bool.and_eq_true, decide_eq_true_eq]; omega)]; rfl), rfl⟩ ⟨trivial, Nat.le_refl _, Nat.le_refl _⟩
      · have c1 : ¬ y < 0 := c1
        rw [x_lt, x_i0] at c1
        refine And.intro (x_ix_nI (by omega) (by omega)) ?_
        rw [nI_clamp (by omega)]
        refine And.intro (fun c2 => ?_) (fun c2 => ?_)
        · have c2 : y < f 504 i := c2
          rw [a1, x_lt, nI_toInt (by omega)] at c2
          exact And.intro ⟨(by rw [if_pos (by simp only [x_ixb, Bool.and_eq_true, decide_eq_true_eq]; omega)]; rfl), rfl⟩ ⟨trivial, Nat.le_refl _, Nat.le_refl _⟩
        · have c2 : ¬ y < f 504 i := c2
          rw [a1, x_lt, nI_toInt (by omega)] at c2
          exact And.intro ⟨(by rw [if_neg (by simp only [x_ixb, Bool.and_eq_true, decide_eq_true_eq]; omega)]; rfl), rfl⟩ ⟨trivial, Nat.le_refl _, Nat.le_refl _⟩
theorem y_wp_0 {x y : Int32} (h : y_wp T x y = 0) : ∃ i c, i < 4 ∧ x = nI i ∧ T.1 i = some c ∧ x_ixb y c.2 = true := by
  unfold y_wp at h
  split at h
  · rename_i hx
    obtain ⟨i, hi1, hi, rfl⟩ := x_wi_t (lo := 0) (hi := 3) hx (by decide) (by decide)
    rw [show x_c (nI i) = i from nI_clamp (by omega)] at h
    cases ho : T.1 i with
    | none =>
      rw [ho] at h
      exact absurd (show (2 : Int32) = 0 from h) (by decide)
    | some c =>
      rw [ho] at h
      dsimp only at h
      by_cases hy : x_ixb y c.2 = true
      · exact ⟨i, c, by omega, rfl, ho, hy⟩
      · rw [if_neg hy] at h
        exact absurd h (by decide)
  · exact absurd h (by decide)
theorem y_wp_s (T : xT) (x y : Int32) : y_wp T x y = 0 ∨ 0 < y_wp T x y := by
  unfold y_wp
  split
  · split
    · exact Or.inr (by decide)
    · split
      · exact Or.inl rfl
      · exact Or.inr (by decide)
  · exact Or.inr (by decide)
theorem m_write {x y : Int32} {w : Int64} (hT : x_TM f g T) : x_Ct 188 (d + 2) [.ref 500, .int x, .int y, .long w] (f, g, x_HR r t, dm, n) (x_QN f g (x_HR r t) dm n (st_write T x y w)) := by
  unfold st_write
  refine x_Ct_w (by decide) (Nat.le_of_ble_eq_true rfl) ok188 [] 8 ?_
  refine Exists.intro _ (And.intro (m_wrongPlace hT) (And.intro (And.intro (Nat.zero_le _) (Nat.zero_le _)) (fun q h' hpo => ?_)))
  obtain ⟨rfl, rfl⟩ := hpo
  by_cases hw : y_wp T x y = 0
  · rw [if_pos hw, hw]
    refine And.intro (fun c => absurd rfl c) (fun _ => ?_)
    obtain ⟨i, c, hi, rfl, ho, hy⟩ := y_wp_0 hw
    have h1 := hT i hi
    rw [ho] at h1
    obtain ⟨a1, a2, a3, a4, a5⟩ := h1
    obtain ⟨j, hj, rfl⟩ := x_ixb_t hy (by omega)
    have ei : nI 60 * nI i + nI j = nI (60 * i + j) := by rw [pk_mul, nI_add]
    have ei' : (Int8.ofInt 60).toInt32 * nI i + nI j = nI (60 * i + j) := ei
    rw [show x_c (nI i) = i from nI_clamp (by omega), show x_c (nI j) = j from nI_clamp (by omega), ho, show y_so T i = c.1 by unfold y_so; rw [ho]]
    refine And.intro (x_ix_nI (by omega) (by omega)) ?_
    rw [nI_clamp (by omega)]
    refine Exists.intro _ (And.intro m_cut (And.intro (And.intro (Nat.zero_le _) (Nat.zero_le _)) (fun q h' hpo => ?_)))
    obtain ⟨rfl, rfl⟩ := hpo
    refine And.intro (by show x_ix (nI 60 * nI i + nI j) 240; rw [ei]; exact x_ix_nI (by omega) (by omega)) ?_
    rw [ei', nI_clamp (by omega)]
    refine Exists.intro _ (And.intro m_is (And.intro (And.intro (Nat.zero_le _) (Nat.zero_le _)) (fun q h' hpo => ?_)))
    obtain ⟨rfl, rfl⟩ := hpo
    refine And.intro ?_ ⟨Or.inr rfl, Nat.le_refl _, Nat.le_refl _⟩
    rw [← a2]
    refine x_QN_S (x_TM_set (F := f) (G := x_up g 505 (60 * i + j) (y_cut (f 503 i) w)) (i := i) (c := some c) (u := va_up (T.2 i) j (y_cut (f 503 i) w)) hT (fun _ _ => ⟨rfl, rfl⟩) (fun q k hq hk => x_up_j (by omega)) ⟨a1, a2, a3, a4, fun k hk => ?_⟩) (fun _ _ _ => rfl) (fun k hk => x_up_k hk)
    show x_up g 505 (60 * i + j) _ 505 (60 * i + k) = _
    by_cases e : k = j
    · subst e
      rw [x_us, x_up_s]
    · rw [x_un e, x_up_j (by omega)]
      exact a5 k hk
  · rw [if_neg hw]
    refine And.intro (fun _ => ?_) (fun c => absurd c hw)
    refine Exists.intro _ (And.intro m_is (And.intro (And.intro (Nat.zero_le _) (Nat.zero_le _)) (fun q h' hpo => ?_)))
    obtain ⟨rfl, rfl⟩ := hpo
    rw [if_neg hw]
    refine And.intro ?_ ⟨Or.inl rfl, Nat.le_refl _, Nat.le_refl _⟩
    exact x_QN_0 hT
theorem m_read {x y : Int32} (hT : x_TM f g T) : x_Ct 189 (d + 2) [.ref 500, .int x, .int y] (f, g, x_HR r t, dm, n) (x_QN f g (x_HR r t) dm n (st_read T x y)) := by
  unfold st_read
  refine x_Ct_w (by decide) (Nat.le_of_ble_eq_true rfl) ok189 [] 8 ?_
  refine Exists.intro _ (And.intro (m_wrongPlace hT) (And.intro (And.intro (Nat.zero_le _) (Nat.zero_le _)) (fun q h' hpo => ?_)))
  obtain ⟨rfl, rfl⟩ := hpo
  by_cases hw : y_wp T x y = 0
  · rw [if_pos hw, hw]
    refine And.intro (fun _ => ?_) (fun c => absurd (show x_up f 500 2 0 500 2 ≤ 0 by rw [x_up_s]; decide) c)
    obtain ⟨i, c, hi, rfl, ho, hy⟩ := y_wp_0 hw
    have h1 := hT i hi
    rw [ho] at h1
    obtain ⟨a1, a2, a3, a4, a5⟩ := h1
    obtain ⟨j, hj, rfl⟩ := x_ixb_t hy (by omega)
    have ei : nI 60 * nI i + nI j = nI (60 * i + j) := by rw [pk_mul, nI_add]
    have ei' : (Int8.ofInt 60).toInt32 * nI i + nI j = nI (60 * i + j) := ei
    rw [show x_c (nI i) = i from nI_clamp (by omega), show x_c (nI j) = j from nI_clamp (by omega)]
    refine And.intro (by show x_ix (nI 60 * nI i + nI j) 240; rw [ei]; exact x_ix_nI (by omega) (by omega)) ?_
    rw [ei', nI_clamp (by omega)]
    refine And.intro ?_ ⟨trivial, Nat.le_refl _, Nat.le_refl _⟩
    rw [show T.2 i j = g 505 (60 * i + j) from (a5 j hj).symm]
    exact x_QN_0 hT
  · rw [if_neg hw]
    have hp := (y_wp_s T x y).resolve_left hw
    refine And.intro (fun c => ?_) (fun _ => ?_)
    · have c : x_up f 500 2 (y_wp T x y) 500 2 ≤ 0 := c
      rw [x_up_s] at c
      exact absurd hp (Int32.not_lt.mpr c)
    · refine And.intro ?_ ⟨trivial, Nat.le_refl _, Nat.le_refl _⟩
      exact x_QN_0 hT
theorem m_pour {x p y a m : Int32} (hT : x_TM f g T) : x_Ct 190 (d + 1) [.ref 500, .int x, .int p, .int y, .int a, .int m] (f, g, x_HR r t, dm, n) (x_QN f g (x_HR r t) dm n (st_pour T x p y a m)) := by
  have bad : (x_wi x 0 3 && (x_wi y 0 3 && (y_np p && (y_np a && y_np m)))) = false → st_pour T x p y a m = (.int 0, 1, T) := by
    intro hb
    have : y_po T x p y a m = 1 := by
      unfold y_po
      rw [hb]
      exact if_neg (by decide)
    unfold st_pour
    rw [this]
    exact if_neg (by decide)
  refine x_Ct_w (by decide) (Nat.le_of_ble_eq_true rfl) ok190 [118] 14 ?_
  refine Exists.intro _ (And.intro m_isTray (And.intro (And.intro (Nat.zero_le _) (Nat.zero_le _)) (fun q h' hpo => ?_)))
  obtain ⟨rfl, rfl⟩ := hpo
  cases hx : x_wi x 0 3 with
  | false =>
    rw [bad (by rw [hx]; rfl)]
    refine And.intro (fun _ => ?_) (fun c => absurd rfl c)
    refine Exists.intro _ (And.intro m_is (And.intro (And.intro (Nat.zero_le _) (Nat.zero_le _)) (fun q h' hpo => ?_)))
    obtain ⟨rfl, rfl⟩ := hpo
    refine And.intro ?_ ⟨Or.inl rfl, Nat.le_refl _, Nat.le_refl _⟩
    exact x_QN_0 hT
  | true =>
    refine And.intro (fun c => absurd c (by decide)) (fun _ => ?_)
    refine Exists.intro _ (And.intro m_isTray (And.intro (And.intro (Nat.zero_le _) (Nat.zero_le _)) (fun q h' hpo => ?_)))
    obtain ⟨rfl, rfl⟩ := hpo
    cases hy : x_wi y 0 3 with
    | false =>
      rw [bad (by rw [hx, hy]; rfl)]
      refine And.intro (fun _ => ?_) (fun c => absurd rfl c)
      refine Exists.intro _ (And.intro m_is (And.intro (And.intro (Nat.zero_le _) (Nat.zero_le _)) (fun q h' hpo => ?_)))
      obtain ⟨rfl, rfl⟩ := hpo
      refine And.intro ?_ ⟨Or.inl rfl, Nat.le_refl _, Nat.le_refl _⟩
      exact x_QN_0 hT
    | true =>
      refine And.intro (fun c => absurd c (by decide)) (fun _ => ?_)
      refine And.intro (fun c1 => ?_) (fun c1 => ?_)
      · have c1 : p < 0 := c1
        rw [x_lt, x_i0] at c1
        rw [bad (by rw [hx, hy, show y_np p = false from decide_eq_false (by omega)]; rfl)]
        refine Exists.intro _ (And.intro m_is (And.intro (And.intro (Nat.zero_le _) (Nat.zero_le _)) (fun q h' hpo => ?_)))
        obtain ⟨rfl, rfl⟩ := hpo
        refine And.intro ?_ ⟨Or.inl rfl, Nat.le_refl _, Nat.le_refl _⟩
        exact x_QN_0 hT
      · have c1 : ¬ p < 0 := c1
        rw [x_lt, x_i0] at c1
        refine And.intro (fun c2 => ?_) (fun c2 => ?_)
        · have c2 : a < 0 := c2
          rw [x_lt, x_i0] at c2
          rw [bad (by rw [hx, hy, show y_np p = true from decide_eq_true (by omega), show y_np a = false from decide_eq_false (by omega)]; rfl)]
          refine Exists.intro _ (And.intro m_is (And.intro (And.intro (Nat.zero_le _) (Nat.zero_le _)) (fun q h' hpo => ?_)))
          obtain ⟨rfl, rfl⟩ := hpo
          refine And.intro ?_ ⟨Or.inl rfl, Nat.le_refl _, Nat.le_refl _⟩
          exact x_QN_0 hT
        · have c2 : ¬ a < 0 := c2
          rw [x_lt, x_i0] at c2
          refine And.intro (fun c3 => ?_) (fun c3 => ?_)
          · have c3 : 0 ≤ m := c3
            rw [x_le, x_i0] at c3
            obtain ⟨i, hi1, hi, rfl⟩ := x_wi_t (lo := 0) (hi := 3) hx (by decide) (by decide)
            obtain ⟨k, hk1, hk, rfl⟩ := x_wi_t (lo := 0) (hi := 3) hy (by decide) (by decide)
            obtain ⟨P, hP, rfl⟩ := nI_of (x := p) (by rw [x_lt, x_i0]; omega)
            obtain ⟨A, hA, rfl⟩ := nI_of (x := a) (by rw [x_lt, x_i0]; omega)
            obtain ⟨M, hM, rfl⟩ := nI_of (x := m) (by rw [x_lt, x_i0]; omega)
            have tP := nI_toInt hP
            have tA := nI_toInt hA
            have tM := nI_toInt hM
            have h1 := hT i (by omega)
            have h2 := hT k (by omega)
            obtain ⟨o1, ho⟩ : ∃ o1, T.1 i = o1 := ⟨_, rfl⟩
            obtain ⟨o2, ho2⟩ : ∃ o2, T.1 k = o2 := ⟨_, rfl⟩
            have hpo : y_po T (nI i) (nI P) (nI k) (nI A) (nI M) = y_pp o1 o2 (nI P) (nI A) (nI M) := by
              unfold y_po
              rw [hx, hy, show y_np (nI P) = true from decide_eq_true (by omega), show y_np (nI A) = true from decide_eq_true (by omega), show y_np (nI M) = true from decide_eq_true (by omega), if_pos (by decide), show x_c (nI i) = i from nI_clamp (by omega), show x_c (nI k) = k from nI_clamp (by omega), ← ho, ← ho2]
            have no : ∀ e, y_pp o1 o2 (nI P) (nI A) (nI M) = e → ¬ e = 0 → st_pour T (nI i) (nI P) (nI k) (nI A) (nI M) = (.int 0, e, T) := by
              intro e he hne
              unfold st_pour
              rw [hpo, he]
              exact if_neg hne
            rw [ho] at h1
            rw [ho2] at h2
            refine And.intro (x_ix_nI (by omega) (by omega)) ?_
            rw [nI_clamp (by omega)]
            cases o1 with
            | none =>
              have h1 : f 504 i = -1 := h1
              rw [no 2 rfl (by decide)]
              refine And.intro (fun _ => ?_) (fun c => absurd h1 c)
              refine Exists.intro _ (And.intro m_is (And.intro (And.intro (Nat.zero_le _) (Nat.zero_le _)) (fun q h' hpo => ?_)))
              obtain ⟨rfl, rfl⟩ := hpo
              refine And.intro ?_ ⟨Or.inl rfl, Nat.le_refl _, Nat.le_refl _⟩
              exact x_QN_0 hT
            | some c =>
              obtain ⟨a1, a2, a3, a4, a5⟩ := h1
              refine And.intro (fun c => absurd (a1.symm.trans c) (x_nIm (by omega))) (fun _ => ?_)
              refine And.intro (x_ix_nI (by omega) (by omega)) ?_
              rw [nI_clamp (by omega)]
              cases o2 with
              | none =>
                have h2 : f 504 k = -1 := h2
                rw [no 2 rfl (by decide)]
                refine And.intro (fun c => absurd h2 c) (fun _ => ?_)
                refine Exists.intro _ (And.intro m_is (And.intro (And.intro (Nat.zero_le _) (Nat.zero_le _)) (fun q h' hpo => ?_)))
                obtain ⟨rfl, rfl⟩ := hpo
                refine And.intro ?_ ⟨Or.inl rfl, Nat.le_refl _, Nat.le_refl _⟩
                exact x_QN_0 hT
              | some e =>
                obtain ⟨b1, b2, b3, b4, b5⟩ := h2
                refine And.intro (fun _ => ?_) (fun c => absurd (b1.symm.trans c) (x_nIm (by omega)))
                have ePP : y_pp (some c) (some e) (nI P) (nI A) (nI M) = if c.1 = e.1 then (if (nI P).toInt + (nI M).toInt ≤ c.2 ∧ (nI A).toInt + (nI M).toInt ≤ e.2 then 0 else 3) else 8 := rfl
                rw [tP, tA, tM] at ePP
                refine And.intro (x_ix_nI (by omega) (by omega)) ?_
                rw [nI_clamp (by omega)]
                refine And.intro (x_ix_nI (by omega) (by omega)) ?_
                rw [nI_clamp (by omega)]
                refine And.intro (fun c4 => ?_) (fun c4 => ?_)
                · have c4 : f 503 i = f 503 k := c4
                  have c4 : nI c.1 = nI e.1 := a2.symm.trans (c4.trans b2)
                  rw [nI_eq (by omega) (by omega)] at c4
                  rw [if_pos c4] at ePP
                  have es1 : (f 504 i - nI P).toInt = (c.2 : Int) - P := by
                    have e1 : (nI c.2).toInt = (c.2 : Int) := nI_toInt (by omega)
                    rw [a1, x_isub (by omega) (by omega), e1, tP]
                  have es2 : (f 504 k - nI A).toInt = (e.2 : Int) - A := by
                    have e1 : (nI e.2).toInt = (e.2 : Int) := nI_toInt (by omega)
                    rw [b1, x_isub (by omega) (by omega), e1, tA]
                  refine And.intro (x_ix_nI (by omega) (by omega)) ?_
                  rw [nI_clamp (by omega)]
                  refine And.intro (fun c5 => ?_) (fun c5 => ?_)
                  · have c5 : f 504 i - nI P < nI M := c5
                    rw [x_lt, es1, tM] at c5
                    rw [if_neg (by omega)] at ePP
                    rw [no 3 ePP (by decide)]
                    refine Exists.intro _ (And.intro m_is (And.intro (And.intro (Nat.zero_le _) (Nat.zero_le _)) (fun q h' hpo => ?_)))
                    obtain ⟨rfl, rfl⟩ := hpo
                    refine And.intro ?_ ⟨Or.inl rfl, Nat.le_refl _, Nat.le_refl _⟩
                    exact x_QN_0 hT
                  · have c5 : ¬ f 504 i - nI P < nI M := c5
                    rw [x_lt, es1, tM] at c5
                    refine And.intro (x_ix_nI (by omega) (by omega)) ?_
                    rw [nI_clamp (by omega)]
                    refine And.intro (fun c6 => ?_) (fun c6 => ?_)
                    · have c6 : nI M ≤ f 504 k - nI A := c6
                      rw [x_le, es2, tM] at c6
                      rw [if_pos (by omega)] at ePP
                      have ok : st_pour T (nI i) (nI P) (nI k) (nI A) (nI M) = (.int 1, 0, u_set T k (some e) (va_cpy (T.2 i) (T.2 k) P A M)) := by
                        unfold st_pour
                        rw [hpo, ePP, if_pos rfl, show x_c (nI i) = i from nI_clamp (by omega), show x_c (nI k) = k from nI_clamp (by omega), show x_c (nI P) = P from nI_clamp hP, show x_c (nI A) = A from nI_clamp hA, show x_c (nI M) = M from nI_clamp hM, ho2]
                      rw [ok]
                      have fin : ∀ G, (∀ q, q ≠ 505 → G q = g q) → (∀ q, G 505 q = if 60 * k + A ≤ q ∧ q < 60 * k + A + M then g 505 (60 * i + P + (q - (60 * k + A))) else g 505 q) → x_QN f g (x_HR r t) dm n (.int 1, 0, u_set T k (some e) (va_cpy (T.2 i) (T.2 k) P A M)) (some (.int 1)) (x_up f 500 2 0, G, x_HR r t, dm, n) := by
                        intro G q1 q2
                        refine x_QN_S (x_TM_set (F := f) (G := G) (i := k) (c := some e) (u := va_cpy (T.2 i) (T.2 k) P A M) hT (fun _ _ => ⟨rfl, rfl⟩) (fun j q hj hq => by rw [q2, if_neg (by omega)]) ⟨b1, b2, b3, b4, fun j hj => ?_⟩) (fun _ _ _ => rfl) q1
                        show G 505 (60 * k + j) = va_cpy (T.2 i) (T.2 k) P A M j
                        unfold va_cpy
                        rw [q2]
                        by_cases hc : A ≤ j ∧ j < A + M
                        · rw [if_pos (by omega), if_pos hc]
                          have e5 := a5 (P + (j - A)) (by omega)
                          have e5 : g 505 (60 * i + (P + (j - A))) = T.2 i (P + (j - A)) := e5
                          rw [← e5]
                          congr 1
                          omega
                        · rw [if_neg (by omega), if_neg hc]
                          exact b5 j hj
                      have loop : ∀ mm q lo hi G l7, q + mm = M → ((P < A ∧ lo = M - q ∧ hi = M) ∨ (¬ P < A ∧ lo = 0 ∧ hi = q)) → (∀ z, z ≠ 505 → G z = g z) → (∀ z, G 505 z = if 60 * k + A + lo ≤ z ∧ z < 60 * k + A + hi then g 505 (60 * i + P + (z - (60 * k + A))) else g 505 z) → x_J 190 (d + 1) (x_QN f g (x_HR r t) dm n (.int 1, 0, u_set T k (some e) (va_cpy (T.2 i) (T.2 k) P A M))) 118 [some (.ref 500), some (.int (nI i)), some (.int (nI P)), some (.int (nI k)), some (.int (nI A)), some (.int (nI M)), some (.int (nI q)), l7] [] (f, G, x_HR r t, dm, n) 0 0 := by
                        intro mm
                        induction mm with
                        | zero =>
                          intro q lo hi G l7 hq hlh q1 q2
                          obtain rfl : q = M := by omega
                          refine x_wp_ok ok190 [118] 8 ?_
                          refine And.intro (fun cc => ?_) (fun cc => ?_)
                          · refine Exists.intro _ (And.intro m_is (And.intro (And.intro (Nat.zero_le _) (Nat.zero_le _)) (fun q h' hpo => ?_)))
                            obtain ⟨rfl, rfl⟩ := hpo
                            refine And.intro ?_ ⟨Or.inr rfl, Nat.le_refl _, Nat.le_refl _⟩
                            refine fin G q1 (fun z => ?_)
                            rw [q2, show lo = 0 by omega, show hi = q by omega, Nat.add_zero]
                          · have cc : ¬ nI q ≤ nI q := cc
                            rw [nI_leI (by omega) (by omega)] at cc
                            omega
                        | succ mm ih =>
                          intro q lo hi G l7 hq hlh q1 q2
                          have put : ∀ w lo' hi', w < M → ((lo' = lo ∧ hi' = w + 1 ∧ hi = w ∧ lo ≤ w) ∨ (hi' = hi ∧ lo' = w ∧ lo = w + 1 ∧ w < hi)) → ((P < A ∧ lo' = M - (q + 1) ∧ hi' = M) ∨ (¬ P < A ∧ lo' = 0 ∧ hi' = q + 1)) → G 505 (60 * i + P + w) = g 505 (60 * i + P + w) → x_J 190 (d + 1) (x_QN f g (x_HR r t) dm n (.int 1, 0, u_set T k (some e) (va_cpy (T.2 i) (T.2 k) P A M))) 143 [some (.ref 500), some (.int (nI i)), some (.int (nI P)), some (.int (nI k)), some (.int (nI A)), some (.int (nI M)), some (.int (nI q)), l7] [.int (nI w)] (f, G, x_HR r t, dm, n) 0 0 := by
                            intro w lo' hi' hw hz hlh' hg
                            have e1 : (Int8.ofInt 60).toInt32 * nI k + nI A + nI w = nI (60 * k + A + w) := show nI 60 * nI k + nI A + nI w = _ by rw [pk_mul, nI_add, nI_add]
                            have e2 : (Int8.ofInt 60).toInt32 * nI i + nI P + nI w = nI (60 * i + P + w) := show nI 60 * nI i + nI P + nI w = _ by rw [pk_mul, nI_add, nI_add]
                            refine x_wp_ok ok190 [118] 8 ?_
                            refine And.intro (by show x_ix ((Int8.ofInt 60).toInt32 * nI i + nI P + nI w) 240; rw [e2]; exact x_ix_nI (by omega) (by omega)) ?_
                            rw [e2, nI_clamp (by omega)]
                            refine And.intro (by show x_ix ((Int8.ofInt 60).toInt32 * nI k + nI A + nI w) 240; rw [e1]; exact x_ix_nI (by omega) (by omega)) ?_
                            rw [e1, nI_clamp (by omega)]
                            have e := ih (q + 1) lo' hi' (x_up G 505 (60 * k + A + w) (G 505 (60 * i + P + w))) (some (.int (nI w))) (by omega) hlh' (fun z hz => by rw [x_up_k hz]; exact q1 z hz) (fun z => by
                              by_cases ez : z = 60 * k + A + w
                              · subst ez
                                rw [x_up_s, if_pos (by omega), hg, Nat.add_sub_cancel_left]
                              · rw [x_up_j ez, q2]
                                by_cases hc : 60 * k + A + lo ≤ z ∧ z < 60 * k + A + hi
                                · rw [if_pos hc, if_pos (by omega)]
                                · rw [if_neg hc, if_neg (by omega)])
                            rw [nI_succ q] at e
                            exact e
                          refine x_wp_ok ok190 [118, 143] 8 ?_
                          refine And.intro (fun cc => ?_) (fun cc => ?_)
                          · have cc : nI M ≤ nI q := cc
                            rw [nI_leI (by omega) (by omega)] at cc
                            omega
                          · refine And.intro (fun c7 => ?_) (fun c7 => ?_)
                            · have c7 : nI A ≤ nI P := c7
                              rw [nI_leI (by omega) (by omega)] at c7
                              exact put q 0 (q + 1) (by omega) (by omega) (by omega) (by rw [q2, if_neg (by omega)])
                            · have c7 : ¬ nI A ≤ nI P := c7
                              rw [nI_leI (by omega) (by omega)] at c7
                              have ew : nI M - 1 - nI q = nI (M - 1 - q) := by
                                rw [show (1 : Int32) = nI 1 from rfl, pk_sub (by omega), pk_sub (by omega)]
                              have hgo := put (M - 1 - q) (M - (q + 1)) M (by omega) (by omega) (by omega) (by rw [q2, if_neg (by omega)])
                              rw [← ew] at hgo
                              exact hgo
                      by_cases hPA : P < A
                      · exact loop M 0 M M g none (Nat.zero_add _) (by omega) (fun _ _ => rfl) (fun z => by rw [if_neg (by omega)])
                      · exact loop M 0 0 0 g none (Nat.zero_add _) (by omega) (fun _ _ => rfl) (fun z => by rw [if_neg (by omega)])
                    · have c6 : ¬ nI M ≤ f 504 k - nI A := c6
                      rw [x_le, es2, tM] at c6
                      rw [if_neg (by omega)] at ePP
                      rw [no 3 ePP (by decide)]
                      refine Exists.intro _ (And.intro m_is (And.intro (And.intro (Nat.zero_le _) (Nat.zero_le _)) (fun q h' hpo => ?_)))
                      obtain ⟨rfl, rfl⟩ := hpo
                      refine And.intro ?_ ⟨Or.inl rfl, Nat.le_refl _, Nat.le_refl _⟩
                      exact x_QN_0 hT
                · have c4 : ¬ f 503 i = f 503 k := c4
                  have c4 : ¬ nI c.1 = nI e.1 := fun q => c4 (a2.trans (q.trans b2.symm))
                  rw [nI_eq (by omega) (by omega)] at c4
                  rw [if_neg c4] at ePP
                  rw [no 8 ePP (by decide)]
                  refine Exists.intro _ (And.intro m_is (And.intro (And.intro (Nat.zero_le _) (Nat.zero_le _)) (fun q h' hpo => ?_)))
                  obtain ⟨rfl, rfl⟩ := hpo
                  refine And.intro ?_ ⟨Or.inl rfl, Nat.le_refl _, Nat.le_refl _⟩
                  exact x_QN_0 hT
          · have c3 : ¬ 0 ≤ m := c3
            rw [x_le, x_i0] at c3
            rw [bad (by rw [hx, hy, show y_np p = true from decide_eq_true (by omega), show y_np a = true from decide_eq_true (by omega), show y_np m = false from decide_eq_false c3]; rfl)]
            refine Exists.intro _ (And.intro m_is (And.intro (And.intro (Nat.zero_le _) (Nat.zero_le _)) (fun q h' hpo => ?_)))
            obtain ⟨rfl, rfl⟩ := hpo
            refine And.intro ?_ ⟨Or.inl rfl, Nat.le_refl _, Nat.le_refl _⟩
            exact x_QN_0 hT
end C54
