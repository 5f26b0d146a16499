/-! sheets and TRAYS -/
def y_wk (T : xT) (y : Int32) (K : Nat) : Int32 := if x_wi y 0 3 = true then (match T.1 (x_c y) with
  | none => 2
  | some c => if c.2 < K then 3 else 0) else 1
def u_cp (u : Nat → Int64) (s : Int32) (w : Nat → Nat) : Nat → (Nat → Int64)
  | 0 => u
  | k + 1 => va_up (u_cp u s w k) k (y_cut s (lN (w k)))
theorem u_cp_at (u : Nat → Int64) (s : Int32) (w : Nat → Nat) : ∀ k j, u_cp u s w k j = if j < k then y_cut s (lN (w j)) else u j
  | 0, j => by rw [if_neg (by omega)]; rfl
  | k + 1, j => by
    show va_up (u_cp u s w k) k _ j = _
    by_cases e : j = k
    · subst e
      rw [x_us, if_pos (by omega)]
    · rw [x_un e, u_cp_at u s w k j]
      by_cases h : j < k
      · rw [if_pos h, if_pos (by omega)]
      · rw [if_neg h, if_neg (by omega)]
def st_copy (v : xV) (T : xT) (x y : Int32) : xU := if x_ixb x (v 2 0 0) = true then (if y_wk T y (v 0 0 0) = 0 then (.int (nI (v 0 0 0)), 0, u_set T (x_c y) (T.1 (x_c y)) (u_cp (T.2 (x_c y)) (nI (y_so T (x_c y))) (v 13 (x_c x)) (v 0 0 0))) else (.int (-1), y_wk T y (v 0 0 0), T)) else (.int (-1), 1, T)
def y_ctf (u : Nat → Int64) (w : Nat → Nat) : Nat → Option Int32
  | 0 => some 0
  | k + 1 => match y_ctf u w k with
    | none => none
    | some s => if x_wl (u k) 0 9999 = true then some (s + (u k).toInt32 * nI (w k)) else none
theorem y_ctf_s {u : Nat → Int64} {w : Nat → Nat} {k : Nat} {s : Int32} (h : y_ctf u w k = some s) : y_ctf u w (k + 1) = if x_wl (u k) 0 9999 = true then some (s + (u k).toInt32 * nI (w k)) else none := by
  show (match y_ctf u w k with | none => none | some s => if x_wl (u k) 0 9999 = true then some (s + (u k).toInt32 * nI (w k)) else none) = _
  rw [h]
theorem y_ctf_n {u : Nat → Int64} {w : Nat → Nat} {k : Nat} (h : y_ctf u w k = none) : ∀ m, y_ctf u w (k + m) = none
  | 0 => h
  | m + 1 => by
    show (match y_ctf u w (k + m) with | none => none | some s => if x_wl (u (k + m)) 0 9999 = true then some (s + (u (k + m)).toInt32 * nI (w (k + m))) else none) = _
    rw [y_ctf_n h m]
def st_cnt (v : xV) (T : xT) (y : Int32) : xU := if y_wk T y (v 0 0 0) = 0 then (match y_ctf (T.2 (x_c y)) (v_w v) (v 0 0 0) with
  | none => (.int (-1), 5, T)
  | some s => (.int s, 0, T)) else (.int (-1), y_wk T y (v 0 0 0), T)
theorem y_wk_0 {T : xT} {y : Int32} {K : Nat} (h : y_wk T y K = 0) : ∃ i c, i < 4 ∧ y = nI i ∧ T.1 i = some c ∧ K ≤ c.2 := by
  unfold y_wk at h
  split at h
  · rename_i hx
    obtain ⟨i, hi1, hi, rfl⟩ := x_wi_t (lo := 0) (hi := 3) hx (by decide) (by decide)
    rw [show x_c (nI i) = i from nI_clamp (by omega)] at h
    cases ho : T.1 i with
    | none =>
      rw [ho] at h
      exact absurd (show (2 : Int32) = 0 from h) (by decide)
    | some c =>
      rw [ho] at h
      dsimp only at h
      by_cases hy : c.2 < K
      · rw [if_pos hy] at h
        exact absurd h (by decide)
      · exact ⟨i, c, by omega, rfl, ho, by omega⟩
  · exact absurd h (by decide)
theorem y_wk_i {T : xT} {i K : Nat} (hi : i < 4) : y_wk T (nI i) K = (match T.1 i with | none => 2 | some c => if c.2 < K then 3 else 0) := by
  unfold y_wk
  rw [if_pos (show x_wi (nI i) 0 3 = true from x_wi_nI (lo := 0) (hi := 3) (Nat.zero_le _) (by omega) (by decide)), show x_c (nI i) = i from nI_clamp (by omega)]
section C55
variable {f : Nat → Nat → Int32} {g : Nat → Nat → Int64} {r t : Nat} {ρ : Nat → Nat → Option Nat} {dm : List Nat} {n d N : Nat} {v : xV} {h : xH} {T : xT}
theorem c_copySheets_12_0 {x : Int32} (hC : v_C f g 12 v) (hB : v_B v) (hT : x_TC f g T) : x_Ct 149 (d + 3) [.ref 0, .int x, .int (nI 0)] (f, g, x_HR 12 t, dm, n) (x_QT f g (x_HR 12 t) dm n (st_copy v T x (nI 0))) := by
  have bK := v_B_K hB
  have bG := v_B_G hB
  have bP := v_B_P hB
  have o0 : v_ok v 0 0 0 := ⟨rfl, rfl⟩
  have h0 : f 12 0 = nI (v 0 0 0) := hC.1 0 0 0 o0
  have b0 : v 0 0 0 ≤ 4 := (hB.1 0 0 0 o0).2
  have o2 : v_ok v 2 0 0 := ⟨rfl, rfl⟩
  have h2 : f 12 2 = nI (v 2 0 0) := hC.1 2 0 0 o2
  have b2 : v 2 0 0 ≤ 5 := (hB.1 2 0 0 o2).2
  unfold st_copy
  refine x_Ct_w (by decide) (Nat.le_of_ble_eq_true rfl) ok149 [34] 8 ?_
  refine Exists.intro _ (And.intro (c_hasPerson rfl h2 bP) (And.intro (And.intro (Nat.zero_le _) (Nat.zero_le _)) (fun q h' hpo => ?_)))
  obtain ⟨rfl, rfl⟩ := hpo
  cases hx : x_ixb x (v 2 0 0) with
  | false =>
    rw [if_neg (by decide)]
    refine And.intro (fun _ => ?_) (fun c => absurd rfl c)
    refine And.intro (fun c => absurd c (by decide)) (fun _ => ?_)
    refine Exists.intro _ (And.intro c_refuse (And.intro (And.intro (Nat.zero_le _) (Nat.zero_le _)) (fun q h' hpo => ?_)))
    obtain ⟨rfl, rfl⟩ := hpo
    refine And.intro ?_ ⟨trivial, Nat.le_refl _, Nat.le_refl _⟩
    exact x_QT_0 hT
  | true =>
    rw [if_pos rfl]
    refine And.intro (fun c => absurd c (by decide)) (fun _ => ?_)
    have cw : x_V 167 (d + 2) [.ref 0, .int (nI 0)] (f, g, x_HR 12 t, dm, n) (.int (y_wk T (nI 0) (v 0 0 0))) (f, g, x_HR 12 t, dm, n) := c_wrongForKinds_0_12 (d := d) (t := t) (dm := dm) (n := n) hT h0 bK
    refine Exists.intro _ (And.intro cw (And.intro (And.intro (Nat.zero_le _) (Nat.zero_le _)) (fun q h' hpo => ?_)))
    obtain ⟨rfl, rfl⟩ := hpo
    by_cases hw : y_wk T (nI 0) (v 0 0 0) = 0
    · rw [if_pos hw, hw]
      refine And.intro (fun _ => ?_) (fun c => absurd rfl c)
      obtain ⟨p, hp, rfl⟩ := x_ixb_t hx (by omega)
      obtain ⟨i, c, hi, ei, ho, hcK⟩ := y_wk_0 hw
      obtain rfl : i = 0 := ((nI_eq (by decide) (by omega)).mp ei).symm
      have h1 := hT 0 (by decide)
      rw [ho] at h1
      obtain ⟨a1, a2, a3, a4, a5⟩ := h1
      have a1 : f 2 1 = nI c.2 := a1
      have a2 : f 2 2 = nI c.1 := a2
      rw [show x_c (nI 0) = 0 from rfl, show x_c (nI p) = p from nI_clamp (by omega), ho, show y_so T 0 = c.1 by unfold y_so; rw [ho]]
      have loop : ∀ m k G, k + m = v 0 0 0 → (∀ q, q ≠ 3 → G q = g q) → (∀ j, G 3 j = u_cp (g 3) (nI c.1) (v 13 p) k j) → x_J 149 (d + 3) (x_QT f g (x_HR 12 t) dm n (.int (nI (v 0 0 0)), 0, u_set T 0 (some c) (u_cp (T.2 0) (nI c.1) (v 13 p) (v 0 0 0)))) 34 [some (.ref 0), some (.int (nI p)), some (.int (nI 0)), some (.int 0), some (.int (nI k))] [] (f, G, x_HR 12 t, dm, n) 0 0 := by
        intro m
        induction m with
        | zero =>
          intro k G hk q1 q2
          obtain rfl : k = v 0 0 0 := by omega
          refine x_wp_ok ok149 [34] 6 ?_
          refine And.intro (fun cc => ?_) (fun cc => ?_)
          · refine Exists.intro _ (And.intro c_answer (And.intro (And.intro (Nat.zero_le _) (Nat.zero_le _)) (fun q h' hpo => ?_)))
            obtain ⟨rfl, rfl⟩ := hpo
            refine And.intro ?_ ⟨trivial, Nat.le_refl _, Nat.le_refl _⟩
            rw [← h0]
            refine x_QT_S (x_TC_set (F := f) (G := G) (i := 0) (c := some c) (u := u_cp (T.2 0) (nI c.1) (v 13 p) (v 0 0 0)) hT (fun _ _ => rfl) q1 ⟨a1, a2, a3, a4, fun j hj => ?_⟩) (fun _ _ => rfl) (fun q hq => q1 q (by omega))
            rw [u_cp_at]
            have e5 := q2 j
            rw [u_cp_at] at e5
            by_cases hjK : j < v 0 0 0
            · rw [if_pos hjK]
              rw [if_pos hjK] at e5
              exact e5
            · rw [if_neg hjK]
              rw [if_neg hjK] at e5
              exact e5.trans (a5 j hj)
          · have cc : ¬ f 12 0 ≤ nI (v 0 0 0) := cc
            rw [h0, nI_leI (by omega) (by omega)] at cc
            omega
        | succ m ih =>
          intro k G hk q1 q2
          have o13 : v_ok v 13 p k := show p < v 2 0 0 ∧ k < v 0 0 0 from ⟨by omega, by omega⟩
          have h13 : f 19 (4 * p + k) = nI (v 13 p k) := hC.1 13 p k o13
          have b13 : v 13 p k ≤ 9999 := (hB.1 13 p k o13).2
          refine x_wp_ok ok149 [34] 6 ?_
          refine And.intro (fun cc => ?_) (fun cc => ?_)
          · have cc : f 12 0 ≤ nI k := cc
            rw [h0, nI_leI (by omega) (by omega)] at cc
            omega
          · refine And.intro (x_ix_nI (by omega) (by omega)) ?_
            rw [nI_clamp (by omega)]
            refine Exists.intro _ (And.intro c_purse (And.intro (And.intro (Nat.zero_le _) (Nat.zero_le _)) (fun q h' hpo => ?_)))
            obtain ⟨rfl, rfl⟩ := hpo
            rw [x_pl4]
            refine And.intro (x_ix_nI (by omega) (by omega)) ?_
            rw [nI_clamp (by omega)]
            refine Exists.intro _ (And.intro (c_put_0 (j := k) (show k < 60 by omega)) (And.intro (And.intro (Nat.zero_le _) (Nat.zero_le _)) (fun q h' hpo => ?_)))
            obtain ⟨rfl, rfl⟩ := hpo
            have e := ih (k + 1) (x_up G 3 k (y_cut (f 2 2) (f 19 (4 * p + k)).toInt64)) (by omega) (fun q hq => by rw [x_up_k hq]; exact q1 q hq) (fun j => by
              show _ = va_up (u_cp (g 3) (nI c.1) (v 13 p) k) k _ j
              by_cases e : j = k
              · subst e
                rw [x_up_s, x_us, a2, h13, nI_l (by omega)]
              · rw [x_up_j e, x_un e]
                exact q2 j)
            rw [nI_succ k] at e
            exact e
      exact loop (v 0 0 0) 0 g (Nat.zero_add _) (fun _ _ => rfl) (fun _ => rfl)
    · rw [if_neg hw]
      refine And.intro (fun c => absurd c hw) (fun _ => ?_)
      refine Exists.intro _ (And.intro c_refuse (And.intro (And.intro (Nat.zero_le _) (Nat.zero_le _)) (fun q h' hpo => ?_)))
      obtain ⟨rfl, rfl⟩ := hpo
      refine And.intro ?_ ⟨trivial, Nat.le_refl _, Nat.le_refl _⟩
      exact x_QT_0 hT
theorem c_count_12_0 (hC : v_C f g 12 v) (hB : v_B v) (hT : x_TC f g T) : x_Ct 150 (d + 3) [.ref 0, .int (nI 0)] (f, g, x_HR 12 t, dm, n) (x_QT f g (x_HR 12 t) dm n (st_cnt v T (nI 0))) := by
  have bK := v_B_K hB
  have bG := v_B_G hB
  have bP := v_B_P hB
  have o0 : v_ok v 0 0 0 := ⟨rfl, rfl⟩
  have h0 : f 12 0 = nI (v 0 0 0) := hC.1 0 0 0 o0
  have b0 : v 0 0 0 ≤ 4 := (hB.1 0 0 0 o0).2
  unfold st_cnt
  refine x_Ct_w (by decide) (Nat.le_of_ble_eq_true rfl) ok150 [21] 8 ?_
  have cw : x_V 167 (d + 2) [.ref 0, .int (nI 0)] (f, g, x_HR 12 t, dm, n) (.int (y_wk T (nI 0) (v 0 0 0))) (f, g, x_HR 12 t, dm, n) := c_wrongForKinds_0_12 (d := d) (t := t) (dm := dm) (n := n) hT h0 bK
  refine Exists.intro _ (And.intro cw (And.intro (And.intro (Nat.zero_le _) (Nat.zero_le _)) (fun q h' hpo => ?_)))
  obtain ⟨rfl, rfl⟩ := hpo
  by_cases hw : y_wk T (nI 0) (v 0 0 0) = 0
  · rw [if_pos hw, hw]
    refine And.intro (fun _ => ?_) (fun c => absurd rfl c)
    obtain ⟨i, c, hi, ei, ho, hcK⟩ := y_wk_0 hw
    obtain rfl : i = 0 := ((nI_eq (by decide) (by omega)).mp ei).symm
    have h1 := hT 0 (by decide)
    rw [ho] at h1
    obtain ⟨a1, a2, a3, a4, a5⟩ := h1
    rw [show x_c (nI 0) = 0 from rfl]
    have loop : ∀ m k s l5, k + m = v 0 0 0 → y_ctf (T.2 0) (v_w v) k = some s → x_J 150 (d + 3) (x_QT f g (x_HR 12 t) dm n (match y_ctf (T.2 0) (v_w v) (v 0 0 0) with | none => (.int (-1), 5, T) | some s => (.int s, 0, T))) 21 [some (.ref 0), some (.int (nI 0)), some (.int 0), some (.int s), some (.int (nI k)), l5, none] [] (f, g, x_HR 12 t, dm, n) 0 0 := by
      intro m
      induction m with
      | zero =>
        intro k s l5 hk hs
        obtain rfl : k = v 0 0 0 := by omega
        rw [hs]
        refine x_wp_ok ok150 [21] 6 ?_
        refine And.intro (fun cc => ?_) (fun cc => ?_)
        · refine Exists.intro _ (And.intro c_answer (And.intro (And.intro (Nat.zero_le _) (Nat.zero_le _)) (fun q h' hpo => ?_)))
          obtain ⟨rfl, rfl⟩ := hpo
          refine And.intro ?_ ⟨trivial, Nat.le_refl _, Nat.le_refl _⟩
          exact x_QT_0 hT
        · have cc : ¬ f 12 0 ≤ nI (v 0 0 0) := cc
          rw [h0, nI_leI (by omega) (by omega)] at cc
          omega
      | succ m ih =>
        intro k s l5 hk hs
        have o9w : v_ok v 9 k 0 := show k < v 0 0 0 ∧ 0 = 0 from ⟨by omega, rfl⟩
        have h9w : f 15 k = nI (v 9 k 0) := hC.1 9 k 0 o9w
        have b9w : v 9 k 0 ≤ 500 := (hB.1 9 k 0 o9w).2
        have l9w : 1 ≤ v 9 k 0 := (hB.1 9 k 0 o9w).1
        have eu : g 3 k = T.2 0 k := a5 k (by omega)
        have hstep := y_ctf_s hs
        refine x_wp_ok ok150 [21] 6 ?_
        refine And.intro (fun cc => ?_) (fun cc => ?_)
        · have cc : f 12 0 ≤ nI k := cc
          rw [h0, nI_leI (by omega) (by omega)] at cc
          omega
        · refine And.intro (x_ix_nI (by omega) (by omega)) ?_
          rw [nI_clamp (by omega)]
          refine And.intro (x_ix_nI (by omega) (by omega)) ?_
          rw [nI_clamp (by omega)]
          have bad : x_wl (T.2 0 k) 0 9999 = false → (match y_ctf (T.2 0) (v_w v) (v 0 0 0) with | none => ((.int (-1), 5, T) : xU) | some s => (.int s, 0, T)) = (.int (-1), 5, T) := by
            intro hb
            rw [hb, if_neg (by decide)] at hstep
            have := y_ctf_n hstep m
            rw [show k + 1 + m = v 0 0 0 by omega] at this
            rw [this]
          refine And.intro (fun c1 => ?_) (fun c1 => ?_)
          · have c1 : lg_cmp (g 3 k) (lN 0) < 0 := c1
            rw [x_lg_lt, eu, Int64.lt_iff_toInt_lt] at c1
            rw [bad (by simp only [x_wl, Bool.and_eq_false_iff, decide_eq_false_iff_not]; exact Or.inl (Int.not_le.mpr c1))]
            refine Exists.intro _ (And.intro c_refuse (And.intro (And.intro (Nat.zero_le _) (Nat.zero_le _)) (fun q h' hpo => ?_)))
            obtain ⟨rfl, rfl⟩ := hpo
            refine And.intro ?_ ⟨trivial, Nat.le_refl _, Nat.le_refl _⟩
            exact x_QT_0 hT
          · have c1 : ¬ lg_cmp (g 3 k) (lN 0) < 0 := c1
            rw [x_lg_lt, eu, Int64.lt_iff_toInt_lt] at c1
            refine And.intro (fun c2 => ?_) (fun c2 => ?_)
            · have c2 : lg_cmp (g 3 k) (lN 9999) ≤ 0 := c2
              rw [← Int32.not_lt, x_lg_gt, eu, Int64.lt_iff_toInt_lt] at c2
              rw [if_pos (by simp only [x_wl, Bool.and_eq_true, decide_eq_true_eq]; exact ⟨Int.not_lt.mp c1, Int.not_lt.mp c2⟩)] at hstep
              refine And.intro (x_ix_nI (by omega) (by omega)) ?_
              rw [nI_clamp (by omega)]
              have e := ih (k + 1) _ (some (.long (g 3 k))) (by omega) hstep
              rw [show v_w v k = v 9 k 0 from rfl, ← h9w, ← eu, nI_succ k] at e
              exact e
            · have c2 : ¬ lg_cmp (g 3 k) (lN 9999) ≤ 0 := c2
              rw [← Int32.not_lt, x_lg_gt, eu, Int64.lt_iff_toInt_lt] at c2
              rw [bad (by simp only [x_wl, Bool.and_eq_false_iff, decide_eq_false_iff_not]; exact Or.inr (fun q => c2 (fun z => absurd (Int.lt_of_lt_of_le z q) (Int.lt_irrefl _))))]
              refine Exists.intro _ (And.intro c_refuse (And.intro (And.intro (Nat.zero_le _) (Nat.zero_le _)) (fun q h' hpo => ?_)))
              obtain ⟨rfl, rfl⟩ := hpo
              refine And.intro ?_ ⟨trivial, Nat.le_refl _, Nat.le_refl _⟩
              exact x_QT_0 hT
    exact loop (v 0 0 0) 0 0 none (Nat.zero_add _) rfl
  · rw [if_neg hw]
    refine And.intro (fun c => absurd c hw) (fun _ => ?_)
    refine Exists.intro _ (And.intro c_refuse (And.intro (And.intro (Nat.zero_le _) (Nat.zero_le _)) (fun q h' hpo => ?_)))
    obtain ⟨rfl, rfl⟩ := hpo
    refine And.intro ?_ ⟨trivial, Nat.le_refl _, Nat.le_refl _⟩
    exact x_QT_0 hT
theorem c_copySheets_12_1 {x : Int32} (hC : v_C f g 12 v) (hB : v_B v) (hT : x_TC f g T) : x_Ct 149 (d + 3) [.ref 0, .int x, .int (nI 1)] (f, g, x_HR 12 t, dm, n) (x_QT f g (x_HR 12 t) dm n (st_copy v T x (nI 1))) := by
  have bK := v_B_K hB
  have bG := v_B_G hB
  have bP := v_B_P hB
  have o0 : v_ok v 0 0 0 := ⟨rfl, rfl⟩
  have h0 : f 12 0 = nI (v 0 0 0) := hC.1 0 0 0 o0
  have b0 : v 0 0 0 ≤ 4 := (hB.1 0 0 0 o0).2
  have o2 : v_ok v 2 0 0 := ⟨rfl, rfl⟩
  have h2 : f 12 2 = nI (v 2 0 0) := hC.1 2 0 0 o2
  have b2 : v 2 0 0 ≤ 5 := (hB.1 2 0 0 o2).2
  unfold st_copy
  refine x_Ct_w (by decide) (Nat.le_of_ble_eq_true rfl) ok149 [34] 8 ?_
  refine Exists.intro _ (And.intro (c_hasPerson rfl h2 bP) (And.intro (And.intro (Nat.zero_le _) (Nat.zero_le _)) (fun q h' hpo => ?_)))
  obtain ⟨rfl, rfl⟩ := hpo
  cases hx : x_ixb x (v 2 0 0) with
  | false =>
    rw [if_neg (by decide)]
    refine And.intro (fun _ => ?_) (fun c => absurd rfl c)
    refine And.intro (fun c => absurd c (by decide)) (fun _ => ?_)
    refine Exists.intro _ (And.intro c_refuse (And.intro (And.intro (Nat.zero_le _) (Nat.zero_le _)) (fun q h' hpo => ?_)))
    obtain ⟨rfl, rfl⟩ := hpo
    refine And.intro ?_ ⟨trivial, Nat.le_refl _, Nat.le_refl _⟩
    exact x_QT_0 hT
  | true =>
    rw [if_pos rfl]
    refine And.intro (fun c => absurd c (by decide)) (fun _ => ?_)
    have cw : x_V 167 (d + 2) [.ref 0, .int (nI 1)] (f, g, x_HR 12 t, dm, n) (.int (y_wk T (nI 1) (v 0 0 0))) (f, g, x_HR 12 t, dm, n) := c_wrongForKinds_1_12 (d := d) (t := t) (dm := dm) (n := n) hT h0 bK
    refine Exists.intro _ (And.intro cw (And.intro (And.intro (Nat.zero_le _) (Nat.zero_le _)) (fun q h' hpo => ?_)))
    obtain ⟨rfl, rfl⟩ := hpo
    by_cases hw : y_wk T (nI 1) (v 0 0 0) = 0
    · rw [if_pos hw, hw]
      refine And.intro (fun _ => ?_) (fun c => absurd rfl c)
      obtain ⟨p, hp, rfl⟩ := x_ixb_t hx (by omega)
      obtain ⟨i, c, hi, ei, ho, hcK⟩ := y_wk_0 hw
      obtain rfl : i = 1 := ((nI_eq (by decide) (by omega)).mp ei).symm
      have h1 := hT 1 (by decide)
      rw [ho] at h1
      obtain ⟨a1, a2, a3, a4, a5⟩ := h1
      have a1 : f 4 1 = nI c.2 := a1
      have a2 : f 4 2 = nI c.1 := a2
      rw [show x_c (nI 1) = 1 from rfl, show x_c (nI p) = p from nI_clamp (by omega), ho, show y_so T 1 = c.1 by unfold y_so; rw [ho]]
      have loop : ∀ m k G, k + m = v 0 0 0 → (∀ q, q ≠ 5 → G q = g q) → (∀ j, G 5 j = u_cp (g 5) (nI c.1) (v 13 p) k j) → x_J 149 (d + 3) (x_QT f g (x_HR 12 t) dm n (.int (nI (v 0 0 0)), 0, u_set T 1 (some c) (u_cp (T.2 1) (nI c.1) (v 13 p) (v 0 0 0)))) 34 [some (.ref 0), some (.int (nI p)), some (.int (nI 1)), some (.int 0), some (.int (nI k))] [] (f, G, x_HR 12 t, dm, n) 0 0 := by
        intro m
        induction m with
        | zero =>
          intro k G hk q1 q2
          obtain rfl : k = v 0 0 0 := by omega
          refine x_wp_ok ok149 [34] 6 ?_
          refine And.intro (fun cc => ?_) (fun cc => ?_)
          · refine Exists.intro _ (And.intro c_answer (And.intro (And.intro (Nat.zero_le _) (Nat.zero_le _)) (fun q h' hpo => ?_)))
            obtain ⟨rfl, rfl⟩ := hpo
            refine And.intro ?_ ⟨trivial, Nat.le_refl _, Nat.le_refl _⟩
            rw [← h0]
            refine x_QT_S (x_TC_set (F := f) (G := G) (i := 1) (c := some c) (u := u_cp (T.2 1) (nI c.1) (v 13 p) (v 0 0 0)) hT (fun _ _ => rfl) q1 ⟨a1, a2, a3, a4, fun j hj => ?_⟩) (fun _ _ => rfl) (fun q hq => q1 q (by omega))
            rw [u_cp_at]
            have e5 := q2 j
            rw [u_cp_at] at e5
            by_cases hjK : j < v 0 0 0
            · rw [if_pos hjK]
              rw [if_pos hjK] at e5
              exact e5
            · rw [if_neg hjK]
              rw [if_neg hjK] at e5
              exact e5.trans (a5 j hj)
          · have cc : ¬ f 12 0 ≤ nI (v 0 0 0) := cc
            rw [h0, nI_leI (by omega) (by omega)] at cc
            omega
        | succ m ih =>
          intro k G hk q1 q2
          have o13 : v_ok v 13 p k := show p < v 2 0 0 ∧ k < v 0 0 0 from ⟨by omega, by omega⟩
          have h13 : f 19 (4 * p + k) = nI (v 13 p k) := hC.1 13 p k o13
          have b13 : v 13 p k ≤ 9999 := (hB.1 13 p k o13).2
          refine x_wp_ok ok149 [34] 6 ?_
          refine And.intro (fun cc => ?_) (fun cc => ?_)
          · have cc : f 12 0 ≤ nI k := cc
            rw [h0, nI_leI (by omega) (by omega)] at cc
            omega
          · refine And.intro (x_ix_nI (by omega) (by omega)) ?_
            rw [nI_clamp (by omega)]
            refine Exists.intro _ (And.intro c_purse (And.intro (And.intro (Nat.zero_le _) (Nat.zero_le _)) (fun q h' hpo => ?_)))
            obtain ⟨rfl, rfl⟩ := hpo
            rw [x_pl4]
            refine And.intro (x_ix_nI (by omega) (by omega)) ?_
            rw [nI_clamp (by omega)]
            refine Exists.intro _ (And.intro (c_put_1 (j := k) (show k < 60 by omega)) (And.intro (And.intro (Nat.zero_le _) (Nat.zero_le _)) (fun q h' hpo => ?_)))
            obtain ⟨rfl, rfl⟩ := hpo
            have e := ih (k + 1) (x_up G 5 k (y_cut (f 4 2) (f 19 (4 * p + k)).toInt64)) (by omega) (fun q hq => by rw [x_up_k hq]; exact q1 q hq) (fun j => by
              show _ = va_up (u_cp (g 5) (nI c.1) (v 13 p) k) k _ j
              by_cases e : j = k
              · subst e
                rw [x_up_s, x_us, a2, h13, nI_l (by omega)]
              · rw [x_up_j e, x_un e]
                exact q2 j)
            rw [nI_succ k] at e
            exact e
      exact loop (v 0 0 0) 0 g (Nat.zero_add _) (fun _ _ => rfl) (fun _ => rfl)
    · rw [if_neg hw]
      refine And.intro (fun c => absurd c hw) (fun _ => ?_)
      refine Exists.intro _ (And.intro c_refuse (And.intro (And.intro (Nat.zero_le _) (Nat.zero_le _)) (fun q h' hpo => ?_)))
      obtain ⟨rfl, rfl⟩ := hpo
      refine And.intro ?_ ⟨trivial, Nat.le_refl _, Nat.le_refl _⟩
      exact x_QT_0 hT
theorem c_count_12_1 (hC : v_C f g 12 v) (hB : v_B v) (hT : x_TC f g T) : x_Ct 150 (d + 3) [.ref 0, .int (nI 1)] (f, g, x_HR 12 t, dm, n) (x_QT f g (x_HR 12 t) dm n (st_cnt v T (nI 1))) := by
  have bK := v_B_K hB
  have bG := v_B_G hB
  have bP := v_B_P hB
  have o0 : v_ok v 0 0 0 := ⟨rfl, rfl⟩
  have h0 : f 12 0 = nI (v 0 0 0) := hC.1 0 0 0 o0
  have b0 : v 0 0 0 ≤ 4 := (hB.1 0 0 0 o0).2
  unfold st_cnt
  refine x_Ct_w (by decide) (Nat.le_of_ble_eq_true rfl) ok150 [21] 8 ?_
  have cw : x_V 167 (d + 2) [.ref 0, .int (nI 1)] (f, g, x_HR 12 t, dm, n) (.int (y_wk T (nI 1) (v 0 0 0))) (f, g, x_HR 12 t, dm, n) := c_wrongForKinds_1_12 (d := d) (t := t) (dm := dm) (n := n) hT h0 bK
  refine Exists.intro _ (And.intro cw (And.intro (And.intro (Nat.zero_le _) (Nat.zero_le _)) (fun q h' hpo => ?_)))
  obtain ⟨rfl, rfl⟩ := hpo
  by_cases hw : y_wk T (nI 1) (v 0 0 0) = 0
  · rw [if_pos hw, hw]
    refine And.intro (fun _ => ?_) (fun c => absurd rfl c)
    obtain ⟨i, c, hi, ei, ho, hcK⟩ := y_wk_0 hw
    obtain rfl : i = 1 := ((nI_eq (by decide) (by omega)).mp ei).symm
    have h1 := hT 1 (by decide)
    rw [ho] at h1
    obtain ⟨a1, a2, a3, a4, a5⟩ := h1
    rw [show x_c (nI 1) = 1 from rfl]
    have loop : ∀ m k s l5, k + m = v 0 0 0 → y_ctf (T.2 1) (v_w v) k = some s → x_J 150 (d + 3) (x_QT f g (x_HR 12 t) dm n (match y_ctf (T.2 1) (v_w v) (v 0 0 0) with | none => (.int (-1), 5, T) | some s => (.int s, 0, T))) 21 [some (.ref 0), some (.int (nI 1)), some (.int 0), some (.int s), some (.int (nI k)), l5, none] [] (f, g, x_HR 12 t, dm, n) 0 0 := by
      intro m
      induction m with
      | zero =>
        intro k s l5 hk hs
        obtain rfl : k = v 0 0 0 := by omega
        rw [hs]
        refine x_wp_ok ok150 [21] 6 ?_
        refine And.intro (fun cc => ?_) (fun cc => ?_)
        · refine Exists.intro _ (And.intro c_answer (And.intro (And.intro (Nat.zero_le _) (Nat.zero_le _)) (fun q h' hpo => ?_)))
          obtain ⟨rfl, rfl⟩ := hpo
          refine And.intro ?_ ⟨trivial, Nat.le_refl _, Nat.le_refl _⟩
          exact x_QT_0 hT
        · have cc : ¬ f 12 0 ≤ nI (v 0 0 0) := cc
          rw [h0, nI_leI (by omega) (by omega)] at cc
          omega
      | succ m ih =>
        intro k s l5 hk hs
        have o9w : v_ok v 9 k 0 := show k < v 0 0 0 ∧ 0 = 0 from ⟨by omega, rfl⟩
        have h9w : f 15 k = nI (v 9 k 0) := hC.1 9 k 0 o9w
        have b9w : v 9 k 0 ≤ 500 := (hB.1 9 k 0 o9w).2
        have l9w : 1 ≤ v 9 k 0 := (hB.1 9 k 0 o9w).1
        have eu : g 5 k = T.2 1 k := a5 k (by omega)
        have hstep := y_ctf_s hs
        refine x_wp_ok ok150 [21] 6 ?_
        refine And.intro (fun cc => ?_) (fun cc => ?_)
        · have cc : f 12 0 ≤ nI k := cc
          rw [h0, nI_leI (by omega) (by omega)] at cc
          omega
        · refine And.intro (x_ix_nI (by omega) (by omega)) ?_
          rw [nI_clamp (by omega)]
          refine And.intro (x_ix_nI (by omega) (by omega)) ?_
          rw [nI_clamp (by omega)]
          have bad : x_wl (T.2 1 k) 0 9999 = false → (match y_ctf (T.2 1) (v_w v) (v 0 0 0) with | none => ((.int (-1), 5, T) : xU) | some s => (.int s, 0, T)) = (.int (-1), 5, T) := by
            intro hb
            rw [hb, if_neg (by decide)] at hstep
            have := y_ctf_n hstep m
            rw [show k + 1 + m = v 0 0 0 by omega] at this
            rw [this]
          refine And.intro (fun c1 => ?_) (fun c1 => ?_)
          · have c1 : lg_cmp (g 5 k) (lN 0) < 0 := c1
            rw [x_lg_lt, eu, Int64.lt_iff_toInt_lt] at c1
            rw [bad (by simp only [x_wl, Bool.and_eq_false_iff, decide_eq_false_iff_not]; exact Or.inl (Int.not_le.mpr c1))]
            refine Exists.intro _ (And.intro c_refuse (And.intro (And.intro (Nat.zero_le _) (Nat.zero_le _)) (fun q h' hpo => ?_)))
            obtain ⟨rfl, rfl⟩ := hpo
            refine And.intro ?_ ⟨trivial, Nat.le_refl _, Nat.le_refl _⟩
            exact x_QT_0 hT
          · have c1 : ¬ lg_cmp (g 5 k) (lN 0) < 0 := c1
            rw [x_lg_lt, eu, Int64.lt_iff_toInt_lt] at c1
            refine And.intro (fun c2 => ?_) (fun c2 => ?_)
            · have c2 : lg_cmp (g 5 k) (lN 9999) ≤ 0 := c2
              rw [← Int32.not_lt, x_lg_gt, eu, Int64.lt_iff_toInt_lt] at c2
              rw [if_pos (by simp only [x_wl, Bool.and_eq_true, decide_eq_true_eq]; exact ⟨Int.not_lt.mp c1, Int.not_lt.mp c2⟩)] at hstep
              refine And.intro (x_ix_nI (by omega) (by omega)) ?_
              rw [nI_clamp (by omega)]
              have e := ih (k + 1) _ (some (.long (g 5 k))) (by omega) hstep
              rw [show v_w v k = v 9 k 0 from rfl, ← h9w, ← eu, nI_succ k] at e
              exact e
            · have c2 : ¬ lg_cmp (g 5 k) (lN 9999) ≤ 0 := c2
              rw [← Int32.not_lt, x_lg_gt, eu, Int64.lt_iff_toInt_lt] at c2
              rw [bad (by simp only [x_wl, Bool.and_eq_false_iff, decide_eq_false_iff_not]; exact Or.inr (fun q => c2 (fun z => absurd (Int.lt_of_lt_of_le z q) (Int.lt_irrefl _))))]
              refine Exists.intro _ (And.intro c_refuse (And.intro (And.intro (Nat.zero_le _) (Nat.zero_le _)) (fun q h' hpo => ?_)))
              obtain ⟨rfl, rfl⟩ := hpo
              refine And.intro ?_ ⟨trivial, Nat.le_refl _, Nat.le_refl _⟩
              exact x_QT_0 hT
    exact loop (v 0 0 0) 0 0 none (Nat.zero_add _) rfl
  · rw [if_neg hw]
    refine And.intro (fun c => absurd c hw) (fun _ => ?_)
    refine Exists.intro _ (And.intro c_refuse (And.intro (And.intro (Nat.zero_le _) (Nat.zero_le _)) (fun q h' hpo => ?_)))
    obtain ⟨rfl, rfl⟩ := hpo
    refine And.intro ?_ ⟨trivial, Nat.le_refl _, Nat.le_refl _⟩
    exact x_QT_0 hT
theorem c_copySheets_12_2 {x : Int32} (hC : v_C f g 12 v) (hB : v_B v) (hT : x_TC f g T) : x_Ct 149 (d + 3) [.ref 0, .int x, .int (nI 2)] (f, g, x_HR 12 t, dm, n) (x_QT f g (x_HR 12 t) dm n (st_copy v T x (nI 2))) := by
  have bK := v_B_K hB
  have bG := v_B_G hB
  have bP := v_B_P hB
  have o0 : v_ok v 0 0 0 := ⟨rfl, rfl⟩
  have h0 : f 12 0 = nI (v 0 0 0) := hC.1 0 0 0 o0
  have b0 : v 0 0 0 ≤ 4 := (hB.1 0 0 0 o0).2
  have o2 : v_ok v 2 0 0 := ⟨rfl, rfl⟩
  have h2 : f 12 2 = nI (v 2 0 0) := hC.1 2 0 0 o2
  have b2 : v 2 0 0 ≤ 5 := (hB.1 2 0 0 o2).2
  unfold st_copy
  refine x_Ct_w (by decide) (Nat.le_of_ble_eq_true rfl) ok149 [34] 8 ?_
  refine Exists.intro _ (And.intro (c_hasPerson rfl h2 bP) (And.intro (And.intro (Nat.zero_le _) (Nat.zero_le _)) (fun q h' hpo => ?_)))
  obtain ⟨rfl, rfl⟩ := hpo
  cases hx : x_ixb x (v 2 0 0) with
  | false =>
    rw [if_neg (by decide)]
    refine And.intro (fun _ => ?_) (fun c => absurd rfl c)
    refine And.intro (fun c => absurd c (by decide)) (fun _ => ?_)
    refine Exists.intro _ (And.intro c_refuse (And.intro (And.intro (Nat.zero_le _) (Nat.zero_le _)) (fun q h' hpo => ?_)))
    obtain ⟨rfl, rfl⟩ := hpo
    refine And.intro ?_ ⟨trivial, Nat.le_refl _, Nat.le_refl _⟩
    exact x_QT_0 hT
  | true =>
    rw [if_pos rfl]
    refine And.intro (fun c => absurd c (by decide)) (fun _ => ?_)
    have cw : x_V 167 (d + 2) [.ref 0, .int (nI 2)] (f, g, x_HR 12 t, dm, n) (.int (y_wk T (nI 2) (v 0 0 0))) (f, g, x_HR 12 t, dm, n) := c_wrongForKinds_2_12 (d := d) (t := t) (dm := dm) (n := n) hT h0 bK
    refine Exists.intro _ (And.intro cw (And.intro (And.intro (Nat.zero_le _) (Nat.zero_le _)) (fun q h' hpo => ?_)))
    obtain ⟨rfl, rfl⟩ := hpo
    by_cases hw : y_wk T (nI 2) (v 0 0 0) = 0
    · rw [if_pos hw, hw]
      refine And.intro (fun _ => ?_) (fun c => absurd rfl c)
      obtain ⟨p, hp, rfl⟩ := x_ixb_t hx (by omega)
      obtain ⟨i, c, hi, ei, ho, hcK⟩ := y_wk_0 hw
      obtain rfl : i = 2 := ((nI_eq (by decide) (by omega)).mp ei).symm
      have h1 := hT 2 (by decide)
      rw [ho] at h1
      obtain ⟨a1, a2, a3, a4, a5⟩ := h1
      have a1 : f 6 1 = nI c.2 := a1
      have a2 : f 6 2 = nI c.1 := a2
      rw [show x_c (nI 2) = 2 from rfl, show x_c (nI p) = p from nI_clamp (by omega), ho, show y_so T 2 = c.1 by unfold y_so; rw [ho]]
      have loop : ∀ m k G, k + m = v 0 0 0 → (∀ q, q ≠ 7 → G q = g q) → (∀ j, G 7 j = u_cp (g 7) (nI c.1) (v 13 p) k j) → x_J 149 (d + 3) (x_QT f g (x_HR 12 t) dm n (.int (nI (v 0 0 0)), 0, u_set T 2 (some c) (u_cp (T.2 2) (nI c.1) (v 13 p) (v 0 0 0)))) 34 [some (.ref 0), some (.int (nI p)), some (.int (nI 2)), some (.int 0), some (.int (nI k))] [] (f, G, x_HR 12 t, dm, n) 0 0 := by
        intro m
        induction m with
        | zero =>
          intro k G hk q1 q2
          obtain rfl : k = v 0 0 0 := by omega
          refine x_wp_ok ok149 [34] 6 ?_
          refine And.intro (fun cc => ?_) (fun cc => ?_)
          · refine Exists.intro _ (And.intro c_answer (And.intro (And.intro (Nat.zero_le _) (Nat.zero_le _)) (fun q h' hpo => ?_)))
            obtain ⟨rfl, rfl⟩ := hpo
            refine And.intro ?_ ⟨trivial, Nat.le_refl _, Nat.le_refl _⟩
            rw [← h0]
            refine x_QT_S (x_TC_set (F := f) (G := G) (i := 2) (c := some c) (u := u_cp (T.2 2) (nI c.1) (v 13 p) (v 0 0 0)) hT (fun _ _ => rfl) q1 ⟨a1, a2, a3, a4, fun j hj => ?_⟩) (fun _ _ => rfl) (fun q hq => q1 q (by omega))
            rw [u_cp_at]
            have e5 := q2 j
            rw [u_cp_at] at e5
            by_cases hjK : j < v 0 0 0
            · rw [if_pos hjK]
              rw [if_pos hjK] at e5
              exact e5
            · rw [if_neg hjK]
              rw [if_neg hjK] at e5
              exact e5.trans (a5 j hj)
          · have cc : ¬ f 12 0 ≤ nI (v 0 0 0) := cc
            rw [h0, nI_leI (by omega) (by omega)] at cc
            omega
        | succ m ih =>
          intro k G hk q1 q2
          have o13 : v_ok v 13 p k := show p < v 2 0 0 ∧ k < v 0 0 0 from ⟨by omega, by omega⟩
          have h13 : f 19 (4 * p + k) = nI (v 13 p k) := hC.1 13 p k o13
          have b13 : v 13 p k ≤ 9999 := (hB.1 13 p k o13).2
          refine x_wp_ok ok149 [34] 6 ?_
          refine And.intro (fun cc => ?_) (fun cc => ?_)
          · have cc : f 12 0 ≤ nI k := cc
            rw [h0, nI_leI (by omega) (by omega)] at cc
            omega
          · refine And.intro (x_ix_nI (by omega) (by omega)) ?_
            rw [nI_clamp (by omega)]
            refine Exists.intro _ (And.intro c_purse (And.intro (And.intro (Nat.zero_le _) (Nat.zero_le _)) (fun q h' hpo => ?_)))
            obtain ⟨rfl, rfl⟩ := hpo
            rw [x_pl4]
            refine And.intro (x_ix_nI (by omega) (by omega)) ?_
            rw [nI_clamp (by omega)]
            refine Exists.intro _ (And.intro (c_put_2 (j := k) (show k < 60 by omega)) (And.intro (And.intro (Nat.zero_le _) (Nat.zero_le _)) (fun q h' hpo => ?_)))
            obtain ⟨rfl, rfl⟩ := hpo
            have e := ih (k + 1) (x_up G 7 k (y_cut (f 6 2) (f 19 (4 * p + k)).toInt64)) (by omega) (fun q hq => by rw [x_up_k hq]; exact q1 q hq) (fun j => by
              show _ = va_up (u_cp (g 7) (nI c.1) (v 13 p) k) k _ j
              by_cases e : j = k
              · subst e
                rw [x_up_s, x_us, a2, h13, nI_l (by omega)]
              · rw [x_up_j e, x_un e]
                exact q2 j)
            rw [nI_succ k] at e
            exact e
      exact loop (v 0 0 0) 0 g (Nat.zero_add _) (fun _ _ => rfl) (fun _ => rfl)
    · rw [if_neg hw]
      refine And.intro (fun c => absurd c hw) (fun _ => ?_)
      refine Exists.intro _ (And.intro c_refuse (And.intro (And.intro (Nat.zero_le _) (Nat.zero_le _)) (fun q h' hpo => ?_)))
      obtain ⟨rfl, rfl⟩ := hpo
      refine And.intro ?_ ⟨trivial, Nat.le_refl _, Nat.le_refl _⟩
      exact x_QT_0 hT
theorem c_count_12_2 (hC : v_C f g 12 v) (hB : v_B v) (hT : x_TC f g T) : x_Ct 150 (d + 3) [.ref 0, .int (nI 2)] (f, g, x_HR 12 t, dm, n) (x_QT f g (x_HR 12 t) dm n (st_cnt v T (nI 2))) := by
  have bK := v_B_K hB
  have bG := v_B_G hB
  have bP := v_B_P hB
  have o0 : v_ok v 0 0 0 := ⟨rfl, rfl⟩
  have h0 : f 12 0 = nI (v 0 0 0) := hC.1 0 0 0 o0
  have b0 : v 0 0 0 ≤ 4 := (hB.1 0 0 0 o0).2
  unfold st_cnt
  refine x_Ct_w (by decide) (Nat.le_of_ble_eq_true rfl) ok150 [21] 8 ?_
  have cw : x_V 167 (d + 2) [.ref 0, .int (nI 2)] (f, g, x_HR 12 t, dm, n) (.int (y_wk T (nI 2) (v 0 0 0))) (f, g, x_HR 12 t, dm, n) := c_wrongForKinds_2_12 (d := d) (t := t) (dm := dm) (n := n) hT h0 bK
  refine Exists.intro _ (And.intro cw (And.intro (And.intro (Nat.zero_le _) (Nat.zero_le _)) (fun q h' hpo => ?_)))
  obtain ⟨rfl, rfl⟩ := hpo
  by_cases hw : y_wk T (nI 2) (v 0 0 0) = 0
  · rw [if_pos hw, hw]
    refine And.intro (fun _ => ?_) (fun c => absurd rfl c)
    obtain ⟨i, c, hi, ei, ho, hcK⟩ := y_wk_0 hw
    obtain rfl : i = 2 := ((nI_eq (by decide) (by omega)).mp ei).symm
    have h1 := hT 2 (by decide)
    rw [ho] at h1
    obtain ⟨a1, a2, a3, a4, a5⟩ := h1
    rw [show x_c (nI 2) = 2 from rfl]
    have loop : ∀ m k s l5, k + m = v 0 0 0 → y_ctf (T.2 2) (v_w v) k = some s → x_J 150 (d + 3) (x_QT f g (x_HR 12 t) dm n (match y_ctf (T.2 2) (v_w v) (v 0 0 0) with | none => (.int (-1), 5, T) | some s => (.int s, 0, T))) 21 [some (.ref 0), some (.int (nI 2)), some (.int 0), some (.int s), some (.int (nI k)), l5, none] [] (f, g, x_HR 12 t, dm, n) 0 0 := by
      intro m
      induction m with
      | zero =>
        intro k s l5 hk hs
        obtain rfl : k = v 0 0 0 := by omega
        rw [hs]
        refine x_wp_ok ok150 [21] 6 ?_
        refine And.intro (fun cc => ?_) (fun cc => ?_)
        · refine Exists.intro _ (And.intro c_answer (And.intro (And.intro (Nat.zero_le _) (Nat.zero_le _)) (fun q h' hpo => ?_)))
          obtain ⟨rfl, rfl⟩ := hpo
          refine And.intro ?_ ⟨trivial, Nat.le_refl _, Nat.le_refl _⟩
          exact x_QT_0 hT
        · have cc : ¬ f 12 0 ≤ nI (v 0 0 0) := cc
          rw [h0, nI_leI (by omega) (by omega)] at cc
          omega
      | succ m ih =>
        intro k s l5 hk hs
        have o9w : v_ok v 9 k 0 := show k < v 0 0 0 ∧ 0 = 0 from ⟨by omega, rfl⟩
        have h9w : f 15 k = nI (v 9 k 0) := hC.1 9 k 0 o9w
        have b9w : v 9 k 0 ≤ 500 := (hB.1 9 k 0 o9w).2
        have l9w : 1 ≤ v 9 k 0 := (hB.1 9 k 0 o9w).1
        have eu : g 7 k = T.2 2 k := a5 k (by omega)
        have hstep := y_ctf_s hs
        refine x_wp_ok ok150 [21] 6 ?_
        refine And.intro (fun cc => ?_) (fun cc => ?_)
        · have cc : f 12 0 ≤ nI k := cc
          rw [h0, nI_leI (by omega) (by omega)] at cc
          omega
        · refine And.intro (x_ix_nI (by omega) (by omega)) ?_
          rw [nI_clamp (by omega)]
          refine And.intro (x_ix_nI (by omega) (by omega)) ?_
          rw [nI_clamp (by omega)]
          have bad : x_wl (T.2 2 k) 0 9999 = false → (match y_ctf (T.2 2) (v_w v) (v 0 0 0) with | none => ((.int (-1), 5, T) : xU) | some s => (.int s, 0, T)) = (.int (-1), 5, T) := by
            intro hb
            rw [hb, if_neg (by decide)] at hstep
            have := y_ctf_n hstep m
            rw [show k + 1 + m = v 0 0 0 by omega] at this
            rw [this]
          refine And.intro (fun c1 => ?_) (fun c1 => ?_)
          · have c1 : lg_cmp (g 7 k) (lN 0) < 0 := c1
            rw [x_lg_lt, eu, Int64.lt_iff_toInt_lt] at c1
            rw [bad (by simp only [x_wl, Bool.and_eq_false_iff, decide_eq_false_iff_not]; exact Or.inl (Int.not_le.mpr c1))]
            refine Exists.intro _ (And.intro c_refuse (And.intro (And.intro (Nat.zero_le _) (Nat.zero_le _)) (fun q h' hpo => ?_)))
            obtain ⟨rfl, rfl⟩ := hpo
            refine And.intro ?_ ⟨trivial, Nat.le_refl _, Nat.le_refl _⟩
            exact x_QT_0 hT
          · have c1 : ¬ lg_cmp (g 7 k) (lN 0) < 0 := c1
            rw [x_lg_lt, eu, Int64.lt_iff_toInt_lt] at c1
            refine And.intro (fun c2 => ?_) (fun c2 => ?_)
            · have c2 : lg_cmp (g 7 k) (lN 9999) ≤ 0 := c2
              rw [← Int32.not_lt, x_lg_gt, eu, Int64.lt_iff_toInt_lt] at c2
              rw [if_pos (by simp only [x_wl, Bool.and_eq_true, decide_eq_true_eq]; exact ⟨Int.not_lt.mp c1, Int.not_lt.mp c2⟩)] at hstep
              refine And.intro (x_ix_nI (by omega) (by omega)) ?_
              rw [nI_clamp (by omega)]
              have e := ih (k + 1) _ (some (.long (g 7 k))) (by omega) hstep
              rw [show v_w v k = v 9 k 0 from rfl, ← h9w, ← eu, nI_succ k] at e
              exact e
            · have c2 : ¬ lg_cmp (g 7 k) (lN 9999) ≤ 0 := c2
              rw [← Int32.not_lt, x_lg_gt, eu, Int64.lt_iff_toInt_lt] at c2
              rw [bad (by simp only [x_wl, Bool.and_eq_false_iff, decide_eq_false_iff_not]; exact Or.inr (fun q => c2 (fun z => absurd (Int.lt_of_lt_of_le z q) (Int.lt_irrefl _))))]
              refine Exists.intro _ (And.intro c_refuse (And.intro (And.intro (Nat.zero_le _) (Nat.zero_le _)) (fun q h' hpo => ?_)))
              obtain ⟨rfl, rfl⟩ := hpo
              refine And.intro ?_ ⟨trivial, Nat.le_refl _, Nat.le_refl _⟩
              exact x_QT_0 hT
    exact loop (v 0 0 0) 0 0 none (Nat.zero_add _) rfl
  · rw [if_neg hw]
    refine And.intro (fun c => absurd c hw) (fun _ => ?_)
    refine Exists.intro _ (And.intro c_refuse (And.intro (And.intro (Nat.zero_le _) (Nat.zero_le _)) (fun q h' hpo => ?_)))
    obtain ⟨rfl, rfl⟩ := hpo
    refine And.intro ?_ ⟨trivial, Nat.le_refl _, Nat.le_refl _⟩
    exact x_QT_0 hT
theorem c_copySheets_12_3 {x : Int32} (hC : v_C f g 12 v) (hB : v_B v) (hT : x_TC f g T) : x_Ct 149 (d + 3) [.ref 0, .int x, .int (nI 3)] (f, g, x_HR 12 t, dm, n) (x_QT f g (x_HR 12 t) dm n (st_copy v T x (nI 3))) := by
  have bK := v_B_K hB
  have bG := v_B_G hB
  have bP := v_B_P hB
  have o0 : v_ok v 0 0 0 := ⟨rfl, rfl⟩
  have h0 : f 12 0 = nI (v 0 0 0) := hC.1 0 0 0 o0
  have b0 : v 0 0 0 ≤ 4 := (hB.1 0 0 0 o0).2
  have o2 : v_ok v 2 0 0 := ⟨rfl, rfl⟩
  have h2 : f 12 2 = nI (v 2 0 0) := hC.1 2 0 0 o2
  have b2 : v 2 0 0 ≤ 5 := (hB.1 2 0 0 o2).2
  unfold st_copy
  refine x_Ct_w (by decide) (Nat.le_of_ble_eq_true rfl) ok149 [34] 8 ?_
  refine Exists.intro _ (And.intro (c_hasPerson rfl h2 bP) (And.intro (And.intro (Nat.zero_le _) (Nat.zero_le _)) (fun q h' hpo => ?_)))
  obtain ⟨rfl, rfl⟩ := hpo
  cases hx : x_ixb x (v 2 0 0) with
  | false =>
    rw [if_neg (by decide)]
    refine And.intro (fun _ => ?_) (fun c => absurd rfl c)
    refine And.intro (fun c => absurd c (by decide)) (fun _ => ?_)
    refine Exists.intro _ (And.intro c_refuse (And.intro (And.intro (Nat.zero_le _) (Nat.zero_le _)) (fun q h' hpo => ?_)))
    obtain ⟨rfl, rfl⟩ := hpo
    refine And.intro ?_ ⟨trivial, Nat.le_refl _, Nat.le_refl _⟩
    exact x_QT_0 hT
  | true =>
    rw [if_pos rfl]
    refine And.intro (fun c => absurd c (by decide)) (fun _ => ?_)
    have cw : x_V 167 (d + 2) [.ref 0, .int (nI 3)] (f, g, x_HR 12 t, dm, n) (.int (y_wk T (nI 3) (v 0 0 0))) (f, g, x_HR 12 t, dm, n) := c_wrongForKinds_3_12 (d := d) (t := t) (dm := dm) (n := n) hT h0 bK
    refine Exists.intro _ (And.intro cw (And.intro (And.intro (Nat.zero_le _) (Nat.zero_le _)) (fun q h' hpo => ?_)))
    obtain ⟨rfl, rfl⟩ := hpo
    by_cases hw : y_wk T (nI 3) (v 0 0 0) = 0
    · rw [if_pos hw, hw]
      refine And.intro (fun _ => ?_) (fun c => absurd rfl c)
      obtain ⟨p, hp, rfl⟩ := x_ixb_t hx (by omega)
      obtain ⟨i, c, hi, ei, ho, hcK⟩ := y_wk_0 hw
      obtain rfl : i = 3 := ((nI_eq (by decide) (by omega)).mp ei).symm
      have h1 := hT 3 (by decide)
      rw [ho] at h1
      obtain ⟨a1, a2, a3, a4, a5⟩ := h1
      have a1 : f 8 1 = nI c.2 := a1
      have a2 : f 8 2 = nI c.1 := a2
      rw [show x_c (nI 3) = 3 from rfl, show x_c (nI p) = p from nI_clamp (by omega), ho, show y_so T 3 = c.1 by unfold y_so; rw [ho]]
      have loop : ∀ m k G, k + m = v 0 0 0 → (∀ q, q ≠ 9 → G q = g q) → (∀ j, G 9 j = u_cp (g 9) (nI c.1) (v 13 p) k j) → x_J 149 (d + 3) (x_QT f g (x_HR 12 t) dm n (.int (nI (v 0 0 0)), 0, u_set T 3 (some c) (u_cp (T.2 3) (nI c.1) (v 13 p) (v 0 0 0)))) 34 [some (.ref 0), some (.int (nI p)), some (.int (nI 3)), some (.int 0), some (.int (nI k))] [] (f, G, x_HR 12 t, dm, n) 0 0 := by
        intro m
        induction m with
        | zero =>
          intro k G hk q1 q2
          obtain rfl : k = v 0 0 0 := by omega
          refine x_wp_ok ok149 [34] 6 ?_
          refine And.intro (fun cc => ?_) (fun cc => ?_)
          · refine Exists.intro _ (And.intro c_answer (And.intro (And.intro (Nat.zero_le _) (Nat.zero_le _)) (fun q h' hpo => ?_)))
            obtain ⟨rfl, rfl⟩ := hpo
            refine And.intro ?_ ⟨trivial, Nat.le_refl _, Nat.le_refl _⟩
            rw [← h0]
            refine x_QT_S (x_TC_set (F := f) (G := G) (i := 3) (c := some c) (u := u_cp (T.2 3) (nI c.1) (v 13 p) (v 0 0 0)) hT (fun _ _ => rfl) q1 ⟨a1, a2, a3, a4, fun j hj => ?_⟩) (fun _ _ => rfl) (fun q hq => q1 q (by omega))
            rw [u_cp_at]
            have e5 := q2 j
            rw [u_cp_at] at e5
            by_cases hjK : j < v 0 0 0
            · rw [if_pos hjK]
              rw [if_pos hjK] at e5
              exact e5
            · rw [if_neg hjK]
              rw [if_neg hjK] at e5
              exact e5.trans (a5 j hj)
          · have cc : ¬ f 12 0 ≤ nI (v 0 0 0) := cc
            rw [h0, nI_leI (by omega) (by omega)] at cc
            omega
        | succ m ih =>
          intro k G hk q1 q2
          have o13 : v_ok v 13 p k := show p < v 2 0 0 ∧ k < v 0 0 0 from ⟨by omega, by omega⟩
          have h13 : f 19 (4 * p + k) = nI (v 13 p k) := hC.1 13 p k o13
          have b13 : v 13 p k ≤ 9999 := (hB.1 13 p k o13).2
          refine x_wp_ok ok149 [34] 6 ?_
          refine And.intro (fun cc => ?_) (fun cc => ?_)
          · have cc : f 12 0 ≤ nI k := cc
            rw [h0, nI_leI (by omega) (by omega)] at cc
            omega
          · refine And.intro (x_ix_nI (by omega) (by omega)) ?_
            rw [nI_clamp (by omega)]
            refine Exists.intro _ (And.intro c_purse (And.intro (And.intro (Nat.zero_le _) (Nat.zero_le _)) (fun q h' hpo => ?_)))
            obtain ⟨rfl, rfl⟩ := hpo
            rw [x_pl4]
            refine And.intro (x_ix_nI (by omega) (by omega)) ?_
            rw [nI_clamp (by omega)]
            refine Exists.intro _ (And.intro (c_put_3 (j := k) (show k < 60 by omega)) (And.intro (And.intro (Nat.zero_le _) (Nat.zero_le _)) (fun q h' hpo => ?_)))
            obtain ⟨rfl, rfl⟩ := hpo
            have e := ih (k + 1) (x_up G 9 k (y_cut (f 8 2) (f 19 (4 * p + k)).toInt64)) (by omega) (fun q hq => by rw [x_up_k hq]; exact q1 q hq) (fun j => by
              show _ = va_up (u_cp (g 9) (nI c.1) (v 13 p) k) k _ j
              by_cases e : j = k
              · subst e
                rw [x_up_s, x_us, a2, h13, nI_l (by omega)]
              · rw [x_up_j e, x_un e]
                exact q2 j)
            rw [nI_succ k] at e
            exact e
      exact loop (v 0 0 0) 0 g (Nat.zero_add _) (fun _ _ => rfl) (fun _ => rfl)
    · rw [if_neg hw]
      refine And.intro (fun c => absurd c hw) (fun _ => ?_)
      refine Exists.intro _ (And.intro c_refuse (And.intro (And.intro (Nat.zero_le _) (Nat.zero_le _)) (fun q h' hpo => ?_)))
      obtain ⟨rfl, rfl⟩ := hpo
      refine And.intro ?_ ⟨trivial, Nat.le_refl _, Nat.le_refl _⟩
      exact x_QT_0 hT
theorem c_count_12_3 (hC : v_C f g 12 v) (hB : v_B v) (hT : x_TC f g T) : x_Ct 150 (d + 3) [.ref 0, .int (nI 3)] (f, g, x_HR 12 t, dm, n) (x_QT f g (x_HR 12 t) dm n (st_cnt v T (nI 3))) := by
  have bK := v_B_K hB
  have bG := v_B_G hB
  have bP := v_B_P hB
  have o0 : v_ok v 0 0 0 := ⟨rfl, rfl⟩
  have h0 : f 12 0 = nI (v 0 0 0) := hC.1 0 0 0 o0
  have b0 : v 0 0 0 ≤ 4 := (hB.1 0 0 0 o0).2
  unfold st_cnt
  refine x_Ct_w (by decide) (Nat.le_of_ble_eq_true rfl) ok150 [21] 8 ?_
  have cw : x_V 167 (d + 2) [.ref 0, .int (nI 3)] (f, g, x_HR 12 t, dm, n) (.int (y_wk T (nI 3) (v 0 0 0))) (f, g, x_HR 12 t, dm, n) := c_wrongForKinds_3_12 (d := d) (t := t) (dm := dm) (n := n) hT h0 bK
  refine Exists.intro _ (And.intro cw (And.intro (And.intro (Nat.zero_le _) (Nat.zero_le _)) (fun q h' hpo => ?_)))
  obtain ⟨rfl, rfl⟩ := hpo
  by_cases hw : y_wk T (nI 3) (v 0 0 0) = 0
  · rw [if_pos hw, hw]
    refine And.intro (fun _ => ?_) (fun c => absurd rfl c)
    obtain ⟨i, c, hi, ei, ho, hcK⟩ := y_wk_0 hw
    obtain rfl : i = 3 := ((nI_eq (by decide) (by omega)).mp ei).symm
    have h1 := hT 3 (by decide)
    rw [ho] at h1
    obtain ⟨a1, a2, a3, a4, a5⟩ := h1
    rw [show x_c (nI 3) = 3 from rfl]
    have loop : ∀ m k s l5, k + m = v 0 0 0 → y_ctf (T.2 3) (v_w v) k = some s → x_J 150 (d + 3) (x_QT f g (x_HR 12 t) dm n (match y_ctf (T.2 3) (v_w v) (v 0 0 0) with | none => (.int (-1), 5, T) | some s => (.int s, 0, T))) 21 [some (.ref 0), some (.int (nI 3)), some (.int 0), some (.int s), some (.int (nI k)), l5, none] [] (f, g, x_HR 12 t, dm, n) 0 0 := by
      intro m
      induction m with
      | zero =>
        intro k s l5 hk hs
        obtain rfl : k = v 0 0 0 := by omega
        rw [hs]
        refine x_wp_ok ok150 [21] 6 ?_
        refine And.intro (fun cc => ?_) (fun cc => ?_)
        · refine Exists.intro _ (And.intro c_answer (And.intro (And.intro (Nat.zero_le _) (Nat.zero_le _)) (fun q h' hpo => ?_)))
          obtain ⟨rfl, rfl⟩ := hpo
          refine And.intro ?_ ⟨trivial, Nat.le_refl _, Nat.le_refl _⟩
          exact x_QT_0 hT
        · have cc : ¬ f 12 0 ≤ nI (v 0 0 0) := cc
          rw [h0, nI_leI (by omega) (by omega)] at cc
          omega
      | succ m ih =>
        intro k s l5 hk hs
        have o9w : v_ok v 9 k 0 := show k < v 0 0 0 ∧ 0 = 0 from ⟨by omega, rfl⟩
        have h9w : f 15 k = nI (v 9 k 0) := hC.1 9 k 0 o9w
        have b9w : v 9 k 0 ≤ 500 := (hB.1 9 k 0 o9w).2
        have l9w : 1 ≤ v 9 k 0 := (hB.1 9 k 0 o9w).1
        have eu : g 9 k = T.2 3 k := a5 k (by omega)
        have hstep := y_ctf_s hs
        refine x_wp_ok ok150 [21] 6 ?_
        refine And.intro (fun cc => ?_) (fun cc => ?_)
        · have cc : f 12 0 ≤ nI k := cc
          rw [h0, nI_leI (by omega) (by omega)] at cc
          omega
        · refine And.intro (x_ix_nI (by omega) (by omega)) ?_
          rw [nI_clamp (by omega)]
          refine And.intro (x_ix_nI (by omega) (by omega)) ?_
          rw [nI_clamp (by omega)]
          have bad : x_wl (T.2 3 k) 0 9999 = false → (match y_ctf (T.2 3) (v_w v) (v 0 0 0) with | none => ((.int (-1), 5, T) : xU) | some s => (.int s, 0, T)) = (.int (-1), 5, T) := by
            intro hb
            rw [hb, if_neg (by decide)] at hstep
            have := y_ctf_n hstep m
            rw [show k + 1 + m = v 0 0 0 by omega] at this
            rw [this]
          refine And.intro (fun c1 => ?_) (fun c1 => ?_)
          · have c1 : lg_cmp (g 9 k) (lN 0) < 0 := c1
            rw [x_lg_lt, eu, Int64.lt_iff_toInt_lt] at c1
            rw [bad (by simp only [x_wl, Bool.and_eq_false_iff, decide_eq_false_iff_not]; exact Or.inl (Int.not_le.mpr c1))]
            refine Exists.intro _ (And.intro c_refuse (And.intro (And.intro (Nat.zero_le _) (Nat.zero_le _)) (fun q h' hpo => ?_)))
            obtain ⟨rfl, rfl⟩ := hpo
            refine And.intro ?_ ⟨trivial, Nat.le_refl _, Nat.le_refl _⟩
            exact x_QT_0 hT
          · have c1 : ¬ lg_cmp (g 9 k) (lN 0) < 0 := c1
            rw [x_lg_lt, eu, Int64.lt_iff_toInt_lt] at c1
            refine And.intro (fun c2 => ?_) (fun c2 => ?_)
            · have c2 : lg_cmp (g 9 k) (lN 9999) ≤ 0 := c2
              rw [← Int32.not_lt, x_lg_gt, eu, Int64.lt_iff_toInt_lt] at c2
              rw [if_pos (by simp only [x_wl, Bool.and_eq_true, decide_eq_true_eq]; exact ⟨Int.not_lt.mp c1, Int.not_lt.mp c2⟩)] at hstep
              refine And.intro (x_ix_nI (by omega) (by omega)) ?_
              rw [nI_clamp (by omega)]
              have e := ih (k + 1) _ (some (.long (g 9 k))) (by omega) hstep
              rw [show v_w v k = v 9 k 0 from rfl, ← h9w, ← eu, nI_succ k] at e
              exact e
            · have c2 : ¬ lg_cmp (g 9 k) (lN 9999) ≤ 0 := c2
              rw [← Int32.not_lt, x_lg_gt, eu, Int64.lt_iff_toInt_lt] at c2
              rw [bad (by simp only [x_wl, Bool.and_eq_false_iff, decide_eq_false_iff_not]; exact Or.inr (fun q => c2 (fun z => absurd (Int.lt_of_lt_of_le z q) (Int.lt_irrefl _))))]
              refine Exists.intro _ (And.intro c_refuse (And.intro (And.intro (Nat.zero_le _) (Nat.zero_le _)) (fun q h' hpo => ?_)))
              obtain ⟨rfl, rfl⟩ := hpo
              refine And.intro ?_ ⟨trivial, Nat.le_refl _, Nat.le_refl _⟩
              exact x_QT_0 hT
    exact loop (v 0 0 0) 0 0 none (Nat.zero_add _) rfl
  · rw [if_neg hw]
    refine And.intro (fun c => absurd c hw) (fun _ => ?_)
    refine Exists.intro _ (And.intro c_refuse (And.intro (And.intro (Nat.zero_le _) (Nat.zero_le _)) (fun q h' hpo => ?_)))
    obtain ⟨rfl, rfl⟩ := hpo
    refine And.intro ?_ ⟨trivial, Nat.le_refl _, Nat.le_refl _⟩
    exact x_QT_0 hT
theorem c_wrongForKinds_12_n {y : Int32} (hy : x_wi y 0 3 = false) : x_V 167 (d + 2) [.ref 0, .int y] (f, g, x_HR 12 t, dm, n) (.int 1) (f, g, x_HR 12 t, dm, n) := by
  refine x_Ct_w (by decide) (Nat.le_of_ble_eq_true rfl) ok167 [] 8 ?_
  refine Exists.intro _ (And.intro c_isTray (And.intro (And.intro (Nat.zero_le _) (Nat.zero_le _)) (fun q h' hpo => ?_)))
  obtain ⟨rfl, rfl⟩ := hpo
  rw [hy]
  refine And.intro (fun c => absurd rfl c) (fun _ => ?_)
  exact And.intro ⟨rfl, rfl⟩ ⟨trivial, Nat.le_refl _, Nat.le_refl _⟩
theorem c_copySheets_12 {x y : Int32} (hC : v_C f g 12 v) (hB : v_B v) (hT : x_TC f g T) : x_Ct 149 (d + 3) [.ref 0, .int x, .int y] (f, g, x_HR 12 t, dm, n) (x_QT f g (x_HR 12 t) dm n (st_copy v T x y)) := by
  cases hy : x_wi y 0 3 with
  | true =>
    rcases x_wi_3 hy with rfl | rfl | rfl | rfl
    · exact c_copySheets_12_0 hC hB hT
    · exact c_copySheets_12_1 hC hB hT
    · exact c_copySheets_12_2 hC hB hT
    · exact c_copySheets_12_3 hC hB hT
  | false =>
    have bK := v_B_K hB
    have bG := v_B_G hB
    have bP := v_B_P hB
    have o2 : v_ok v 2 0 0 := ⟨rfl, rfl⟩
    have h2 : f 12 2 = nI (v 2 0 0) := hC.1 2 0 0 o2
    have b2 : v 2 0 0 ≤ 5 := (hB.1 2 0 0 o2).2
    have hw : y_wk T y (v 0 0 0) = 1 := if_neg (x_wi_n3 hy)
    unfold st_copy
    rw [hw, if_neg (show ¬ (1 : Int32) = 0 by decide)]
    refine x_Ct_w (by decide) (Nat.le_of_ble_eq_true rfl) ok149 [34] 8 ?_
    refine Exists.intro _ (And.intro (c_hasPerson rfl h2 bP) (And.intro (And.intro (Nat.zero_le _) (Nat.zero_le _)) (fun q h' hpo => ?_)))
    obtain ⟨rfl, rfl⟩ := hpo
    cases hx : x_ixb x (v 2 0 0) with
    | false =>
      rw [if_neg (by decide)]
      refine And.intro (fun _ => ?_) (fun c => absurd rfl c)
      refine And.intro (fun c => absurd c (by decide)) (fun _ => ?_)
      refine Exists.intro _ (And.intro c_refuse (And.intro (And.intro (Nat.zero_le _) (Nat.zero_le _)) (fun q h' hpo => ?_)))
      obtain ⟨rfl, rfl⟩ := hpo
      refine And.intro ?_ ⟨trivial, Nat.le_refl _, Nat.le_refl _⟩
      exact x_QT_0 hT
    | true =>
      rw [if_pos rfl]
      refine And.intro (fun c => absurd c (by decide)) (fun _ => ?_)
      refine Exists.intro _ (And.intro (c_wrongForKinds_12_n hy) (And.intro (And.intro (Nat.zero_le _) (Nat.zero_le _)) (fun q h' hpo => ?_)))
      obtain ⟨rfl, rfl⟩ := hpo
      refine And.intro (fun c => absurd c (by decide)) (fun _ => ?_)
      refine Exists.intro _ (And.intro c_refuse (And.intro (And.intro (Nat.zero_le _) (Nat.zero_le _)) (fun q h' hpo => ?_)))
      obtain ⟨rfl, rfl⟩ := hpo
      refine And.intro ?_ ⟨trivial, Nat.le_refl _, Nat.le_refl _⟩
      exact x_QT_0 hT
theorem c_count_12 {y : Int32} (hC : v_C f g 12 v) (hB : v_B v) (hT : x_TC f g T) : x_Ct 150 (d + 3) [.ref 0, .int y] (f, g, x_HR 12 t, dm, n) (x_QT f g (x_HR 12 t) dm n (st_cnt v T y)) := by
  cases hy : x_wi y 0 3 with
  | true =>
    rcases x_wi_3 hy with rfl | rfl | rfl | rfl
    · exact c_count_12_0 hC hB hT
    · exact c_count_12_1 hC hB hT
    · exact c_count_12_2 hC hB hT
    · exact c_count_12_3 hC hB hT
  | false =>
    have hw : y_wk T y (v 0 0 0) = 1 := if_neg (x_wi_n3 hy)
    unfold st_cnt
    rw [hw, if_neg (show ¬ (1 : Int32) = 0 by decide)]
    refine x_Ct_w (by decide) (Nat.le_of_ble_eq_true rfl) ok150 [21] 8 ?_
    refine Exists.intro _ (And.intro (c_wrongForKinds_12_n hy) (And.intro (And.intro (Nat.zero_le _) (Nat.zero_le _)) (fun q h' hpo => ?_)))
    obtain ⟨rfl, rfl⟩ := hpo
    refine And.intro (fun c => absurd c (by decide)) (fun _ => ?_)
    refine Exists.intro _ (And.intro c_refuse (And.intro (And.intro (Nat.zero_le _) (Nat.zero_le _)) (fun q h' hpo => ?_)))
    obtain ⟨rfl, rfl⟩ := hpo
    refine And.intro ?_ ⟨trivial, Nat.le_refl _, Nat.le_refl _⟩
    exact x_QT_0 hT
theorem c_copySheets_22_0 {x : Int32} (hC : v_C f g 22 v) (hB : v_B v) (hT : x_TC f g T) : x_Ct 149 (d + 3) [.ref 0, .int x, .int (nI 0)] (f, g, x_HR 22 t, dm, n) (x_QT f g (x_HR 22 t) dm n (st_copy v T x (nI 0))) := by
  have bK := v_B_K hB
  have bG := v_B_G hB
  have bP := v_B_P hB
  have o0 : v_ok v 0 0 0 := ⟨rfl, rfl⟩
  have h0 : f 22 0 = nI (v 0 0 0) := hC.1 0 0 0 o0
  have b0 : v 0 0 0 ≤ 4 := (hB.1 0 0 0 o0).2
  have o2 : v_ok v 2 0 0 := ⟨rfl, rfl⟩
  have h2 : f 22 2 = nI (v 2 0 0) := hC.1 2 0 0 o2
  have b2 : v 2 0 0 ≤ 5 := (hB.1 2 0 0 o2).2
  unfold st_copy
  refine x_Ct_w (by decide) (Nat.le_of_ble_eq_true rfl) ok149 [34] 8 ?_
  refine Exists.intro _ (And.intro (c_hasPerson rfl h2 bP) (And.intro (And.intro (Nat.zero_le _) (Nat.zero_le _)) (fun q h' hpo => ?_)))
  obtain ⟨rfl, rfl⟩ := hpo
  cases hx : x_ixb x (v 2 0 0) with
  | false =>
    rw [if_neg (by decide)]
    refine And.intro (fun _ => ?_) (fun c => absurd rfl c)
    refine And.intro (fun c => absurd c (by decide)) (fun _ => ?_)
    refine Exists.intro _ (And.intro c_refuse (And.intro (And.intro (Nat.zero_le _) (Nat.zero_le _)) (fun q h' hpo => ?_)))
    obtain ⟨rfl, rfl⟩ := hpo
    refine And.intro ?_ ⟨trivial, Nat.le_refl _, Nat.le_refl _⟩
    exact x_QT_0 hT
  | true =>
    rw [if_pos rfl]
    refine And.intro (fun c => absurd c (by decide)) (fun _ => ?_)
    have cw : x_V 167 (d + 2) [.ref 0, .int (nI 0)] (f, g, x_HR 22 t, dm, n) (.int (y_wk T (nI 0) (v 0 0 0))) (f, g, x_HR 22 t, dm, n) := c_wrongForKinds_0_22 (d := d) (t := t) (dm := dm) (n := n) hT h0 bK
    refine Exists.intro _ (And.intro cw (And.intro (And.intro (Nat.zero_le _) (Nat.zero_le _)) (fun q h' hpo => ?_)))
    obtain ⟨rfl, rfl⟩ := hpo
    by_cases hw : y_wk T (nI 0) (v 0 0 0) = 0
    · rw [if_pos hw, hw]
      refine And.intro (fun _ => ?_) (fun c => absurd rfl c)
      obtain ⟨p, hp, rfl⟩ := x_ixb_t hx (by omega)
      obtain ⟨i, c, hi, ei, ho, hcK⟩ := y_wk_0 hw
      obtain rfl : i = 0 := ((nI_eq (by decide) (by omega)).mp ei).symm
      have h1 := hT 0 (by decide)
      rw [ho] at h1
      obtain ⟨a1, a2, a3, a4, a5⟩ := h1
      have a1 : f 2 1 = nI c.2 := a1
      have a2 : f 2 2 = nI c.1 := a2
      rw [show x_c (nI 0) = 0 from rfl, show x_c (nI p) = p from nI_clamp (by omega), ho, show y_so T 0 = c.1 by unfold y_so; rw [ho]]
      have loop : ∀ m k G, k + m = v 0 0 0 → (∀ q, q ≠ 3 → G q = g q) → (∀ j, G 3 j = u_cp (g 3) (nI c.1) (v 13 p) k j) → x_J 149 (d + 3) (x_QT f g (x_HR 22 t) dm n (.int (nI (v 0 0 0)), 0, u_set T 0 (some c) (u_cp (T.2 0) (nI c.1) (v 13 p) (v 0 0 0)))) 34 [some (.ref 0), some (.int (nI p)), some (.int (nI 0)), some (.int 0), some (.int (nI k))] [] (f, G, x_HR 22 t, dm, n) 0 0 := by
        intro m
        induction m with
        | zero =>
          intro k G hk q1 q2
          obtain rfl : k = v 0 0 0 := by omega
          refine x_wp_ok ok149 [34] 6 ?_
          refine And.intro (fun cc => ?_) (fun cc => ?_)
          · refine Exists.intro _ (And.intro c_answer (And.intro (And.intro (Nat.zero_le _) (Nat.zero_le _)) (fun q h' hpo => ?_)))
            obtain ⟨rfl, rfl⟩ := hpo
            refine And.intro ?_ ⟨trivial, Nat.le_refl _, Nat.le_refl _⟩
            rw [← h0]
            refine x_QT_S (x_TC_set (F := f) (G := G) (i := 0) (c := some c) (u := u_cp (T.2 0) (nI c.1) (v 13 p) (v 0 0 0)) hT (fun _ _ => rfl) q1 ⟨a1, a2, a3, a4, fun j hj => ?_⟩) (fun _ _ => rfl) (fun q hq => q1 q (by omega))
            rw [u_cp_at]
            have e5 := q2 j
            rw [u_cp_at] at e5
            by_cases hjK : j < v 0 0 0
            · rw [if_pos hjK]
              rw [if_pos hjK] at e5
              exact e5
            · rw [if_neg hjK]
              rw [if_neg hjK] at e5
              exact e5.trans (a5 j hj)
          · have cc : ¬ f 22 0 ≤ nI (v 0 0 0) := cc
            rw [h0, nI_leI (by omega) (by omega)] at cc
            omega
        | succ m ih =>
          intro k G hk q1 q2
          have o13 : v_ok v 13 p k := show p < v 2 0 0 ∧ k < v 0 0 0 from ⟨by omega, by omega⟩
          have h13 : f 29 (4 * p + k) = nI (v 13 p k) := hC.1 13 p k o13
          have b13 : v 13 p k ≤ 9999 := (hB.1 13 p k o13).2
          refine x_wp_ok ok149 [34] 6 ?_
          refine And.intro (fun cc => ?_) (fun cc => ?_)
          · have cc : f 22 0 ≤ nI k := cc
            rw [h0, nI_leI (by omega) (by omega)] at cc
            omega
          · refine And.intro (x_ix_nI (by omega) (by omega)) ?_
            rw [nI_clamp (by omega)]
            refine Exists.intro _ (And.intro c_purse (And.intro (And.intro (Nat.zero_le _) (Nat.zero_le _)) (fun q h' hpo => ?_)))
            obtain ⟨rfl, rfl⟩ := hpo
            rw [x_pl4]
            refine And.intro (x_ix_nI (by omega) (by omega)) ?_
            rw [nI_clamp (by omega)]
            refine Exists.intro _ (And.intro (c_put_0 (j := k) (show k < 60 by omega)) (And.intro (And.intro (Nat.zero_le _) (Nat.zero_le _)) (fun q h' hpo => ?_)))
            obtain ⟨rfl, rfl⟩ := hpo
            have e := ih (k + 1) (x_up G 3 k (y_cut (f 2 2) (f 29 (4 * p + k)).toInt64)) (by omega) (fun q hq => by rw [x_up_k hq]; exact q1 q hq) (fun j => by
              show _ = va_up (u_cp (g 3) (nI c.1) (v 13 p) k) k _ j
              by_cases e : j = k
              · subst e
                rw [x_up_s, x_us, a2, h13, nI_l (by omega)]
              · rw [x_up_j e, x_un e]
                exact q2 j)
            rw [nI_succ k] at e
            exact e
      exact loop (v 0 0 0) 0 g (Nat.zero_add _) (fun _ _ => rfl) (fun _ => rfl)
    · rw [if_neg hw]
      refine And.intro (fun c => absurd c hw) (fun _ => ?_)
      refine Exists.intro _ (And.intro c_refuse (And.intro (And.intro (Nat.zero_le _) (Nat.zero_le _)) (fun q h' hpo => ?_)))
      obtain ⟨rfl, rfl⟩ := hpo
      refine And.intro ?_ ⟨trivial, Nat.le_refl _, Nat.le_refl _⟩
      exact x_QT_0 hT
theorem c_count_22_0 (hC : v_C f g 22 v) (hB : v_B v) (hT : x_TC f g T) : x_Ct 150 (d + 3) [.ref 0, .int (nI 0)] (f, g, x_HR 22 t, dm, n) (x_QT f g (x_HR 22 t) dm n (st_cnt v T (nI 0))) := by
  have bK := v_B_K hB
  have bG := v_B_G hB
  have bP := v_B_P hB
  have o0 : v_ok v 0 0 0 := ⟨rfl, rfl⟩
  have h0 : f 22 0 = nI (v 0 0 0) := hC.1 0 0 0 o0
  have b0 : v 0 0 0 ≤ 4 := (hB.1 0 0 0 o0).2
  unfold st_cnt
  refine x_Ct_w (by decide) (Nat.le_of_ble_eq_true rfl) ok150 [21] 8 ?_
  have cw : x_V 167 (d + 2) [.ref 0, .int (nI 0)] (f, g, x_HR 22 t, dm, n) (.int (y_wk T (nI 0) (v 0 0 0))) (f, g, x_HR 22 t, dm, n) := c_wrongForKinds_0_22 (d := d) (t := t) (dm := dm) (n := n) hT h0 bK
  refine Exists.intro _ (And.intro cw (And.intro (And.intro (Nat.zero_le _) (Nat.zero_le _)) (fun q h' hpo => ?_)))
  obtain ⟨rfl, rfl⟩ := hpo
  by_cases hw : y_wk T (nI 0) (v 0 0 0) = 0
  · rw [if_pos hw, hw]
    refine And.intro (fun _ => ?_) (fun c => absurd rfl c)
    obtain ⟨i, c, hi, ei, ho, hcK⟩ := y_wk_0 hw
    obtain rfl : i = 0 := ((nI_eq (by decide) (by omega)).mp ei).symm
    have h1 := hT 0 (by decide)
    rw [ho] at h1
    obtain ⟨a1, a2, a3, a4, a5⟩ := h1
    rw [show x_c (nI 0) = 0 from rfl]
    have loop : ∀ m k s l5, k + m = v 0 0 0 → y_ctf (T.2 0) (v_w v) k = some s → x_J 150 (d + 3) (x_QT f g (x_HR 22 t) dm n (match y_ctf (T.2 0) (v_w v) (v 0 0 0) with | none => (.int (-1), 5, T) | some s => (.int s, 0, T))) 21 [some (.ref 0), some (.int (nI 0)), some (.int 0), some (.int s), some (.int (nI k)), l5, none] [] (f, g, x_HR 22 t, dm, n) 0 0 := by
      intro m
      induction m with
      | zero =>
        intro k s l5 hk hs
        obtain rfl : k = v 0 0 0 := by omega
        rw [hs]
        refine x_wp_ok ok150 [21] 6 ?_
        refine And.intro (fun cc => ?_) (fun cc => ?_)
        · refine Exists.intro _ (And.intro c_answer (And.intro (And.intro (Nat.zero_le _) (Nat.zero_le _)) (fun q h' hpo => ?_)))
          obtain ⟨rfl, rfl⟩ := hpo
          refine And.intro ?_ ⟨trivial, Nat.le_refl _, Nat.le_refl _⟩
          exact x_QT_0 hT
        · have cc : ¬ f 22 0 ≤ nI (v 0 0 0) := cc
          rw [h0, nI_leI (by omega) (by omega)] at cc
          omega
      | succ m ih =>
        intro k s l5 hk hs
        have o9w : v_ok v 9 k 0 := show k < v 0 0 0 ∧ 0 = 0 from ⟨by omega, rfl⟩
        have h9w : f 25 k = nI (v 9 k 0) := hC.1 9 k 0 o9w
        have b9w : v 9 k 0 ≤ 500 := (hB.1 9 k 0 o9w).2
        have l9w : 1 ≤ v 9 k 0 := (hB.1 9 k 0 o9w).1
        have eu : g 3 k = T.2 0 k := a5 k (by omega)
        have hstep := y_ctf_s hs
        refine x_wp_ok ok150 [21] 6 ?_
        refine And.intro (fun cc => ?_) (fun cc => ?_)
        · have cc : f 22 0 ≤ nI k := cc
          rw [h0, nI_leI (by omega) (by omega)] at cc
          omega
        · refine And.intro (x_ix_nI (by omega) (by omega)) ?_
          rw [nI_clamp (by omega)]
          refine And.intro (x_ix_nI (by omega) (by omega)) ?_
          rw [nI_clamp (by omega)]
          have bad : x_wl (T.2 0 k) 0 9999 = false → (match y_ctf (T.2 0) (v_w v) (v 0 0 0) with | none => ((.int (-1), 5, T) : xU) | some s => (.int s, 0, T)) = (.int (-1), 5, T) := by
            intro hb
            rw [hb, if_neg (by decide)] at hstep
            have := y_ctf_n hstep m
            rw [show k + 1 + m = v 0 0 0 by omega] at this
            rw [this]
          refine And.intro (fun c1 => ?_) (fun c1 => ?_)
          · have c1 : lg_cmp (g 3 k) (lN 0) < 0 := c1
            rw [x_lg_lt, eu, Int64.lt_iff_toInt_lt] at c1
            rw [bad (by simp only [x_wl, Bool.and_eq_false_iff, decide_eq_false_iff_not]; exact Or.inl (Int.not_le.mpr c1))]
            refine Exists.intro _ (And.intro c_refuse (And.intro (And.intro (Nat.zero_le _) (Nat.zero_le _)) (fun q h' hpo => ?_)))
            obtain ⟨rfl, rfl⟩ := hpo
            refine And.intro ?_ ⟨trivial, Nat.le_refl _, Nat.le_refl _⟩
            exact x_QT_0 hT
          · have c1 : ¬ lg_cmp (g 3 k) (lN 0) < 0 := c1
            rw [x_lg_lt, eu, Int64.lt_iff_toInt_lt] at c1
            refine And.intro (fun c2 => ?_) (fun c2 => ?_)
            · have c2 : lg_cmp (g 3 k) (lN 9999) ≤ 0 := c2
              rw [← Int32.not_lt, x_lg_gt, eu, Int64.lt_iff_toInt_lt] at c2
              rw [if_pos (by simp only [x_wl, Bool.and_eq_true, decide_eq_true_eq]; exact ⟨Int.not_lt.mp c1, Int.not_lt.mp c2⟩)] at hstep
              refine And.intro (x_ix_nI (by omega) (by omega)) ?_
              rw [nI_clamp (by omega)]
              have e := ih (k + 1) _ (some (.long (g 3 k))) (by omega) hstep
              rw [show v_w v k = v 9 k 0 from rfl, ← h9w, ← eu, nI_succ k] at e
              exact e
            · have c2 : ¬ lg_cmp (g 3 k) (lN 9999) ≤ 0 := c2
              rw [← Int32.not_lt, x_lg_gt, eu, Int64.lt_iff_toInt_lt] at c2
              rw [bad (by simp only [x_wl, Bool.and_eq_false_iff, decide_eq_false_iff_not]; exact Or.inr (fun q => c2 (fun z => absurd (Int.lt_of_lt_of_le z q) (Int.lt_irrefl _))))]
              refine Exists.intro _ (And.intro c_refuse (And.intro (And.intro (Nat.zero_le _) (Nat.zero_le _)) (fun q h' hpo => ?_)))
              obtain ⟨rfl, rfl⟩ := hpo
              refine And.intro ?_ ⟨trivial, Nat.le_refl _, Nat.le_refl _⟩
              exact x_QT_0 hT
    exact loop (v 0 0 0) 0 0 none (Nat.zero_add _) rfl
  · rw [if_neg hw]
    refine And.intro (fun c => absurd c hw) (fun _ => ?_)
    refine Exists.intro _ (And.intro c_refuse (And.intro (And.intro (Nat.zero_le _) (Nat.zero_le _)) (fun q h' hpo => ?_)))
    obtain ⟨rfl, rfl⟩ := hpo
    refine And.intro ?_ ⟨trivial, Nat.le_refl _, Nat.le_refl _⟩
    exact x_QT_0 hT
theorem c_copySheets_22_1 {x : Int32} (hC : v_C f g 22 v) (hB : v_B v) (hT : x_TC f g T) : x_Ct 149 (d + 3) [.ref 0, .int x, .int (nI 1)] (f, g, x_HR 22 t, dm, n) (x_QT f g (x_HR 22 t) dm n (st_copy v T x (nI 1))) := by
  have bK := v_B_K hB
  have bG := v_B_G hB
  have bP := v_B_P hB
  have o0 : v_ok v 0 0 0 := ⟨rfl, rfl⟩
  have h0 : f 22 0 = nI (v 0 0 0) := hC.1 0 0 0 o0
  have b0 : v 0 0 0 ≤ 4 := (hB.1 0 0 0 o0).2
  have o2 : v_ok v 2 0 0 := ⟨rfl, rfl⟩
  have h2 : f 22 2 = nI (v 2 0 0) := hC.1 2 0 0 o2
  have b2 : v 2 0 0 ≤ 5 := (hB.1 2 0 0 o2).2
  unfold st_copy
  refine x_Ct_w (by decide) (Nat.le_of_ble_eq_true rfl) ok149 [34] 8 ?_
  refine Exists.intro _ (And.intro (c_hasPerson rfl h2 bP) (And.intro (And.intro (Nat.zero_le _) (Nat.zero_le _)) (fun q h' hpo => ?_)))
  obtain ⟨rfl, rfl⟩ := hpo
  cases hx : x_ixb x (v 2 0 0) with
  | false =>
    rw [if_neg (by decide)]
    refine And.intro (fun _ => ?_) (fun c => absurd rfl c)
    refine And.intro (fun c => absurd c (by decide)) (fun _ => ?_)
    refine Exists.intro _ (And.intro c_refuse (And.intro (And.intro (Nat.zero_le _) (Nat.zero_le _)) (fun q h' hpo => ?_)))
    obtain ⟨rfl, rfl⟩ := hpo
    refine And.intro ?_ ⟨trivial, Nat.le_refl _, Nat.le_refl _⟩
    exact x_QT_0 hT
  | true =>
    rw [if_pos rfl]
    refine And.intro (fun c => absurd c (by decide)) (fun _ => ?_)
    have cw : x_V 167 (d + 2) [.ref 0, .int (nI 1)] (f, g, x_HR 22 t, dm, n) (.int (y_wk T (nI 1) (v 0 0 0))) (f, g, x_HR 22 t, dm, n) := c_wrongForKinds_1_22 (d := d) (t := t) (dm := dm) (n := n) hT h0 bK
    refine Exists.intro _ (And.intro cw (And.intro (And.intro (Nat.zero_le _) (Nat.zero_le _)) (fun q h' hpo => ?_)))
    obtain ⟨rfl, rfl⟩ := hpo
    by_cases hw : y_wk T (nI 1) (v 0 0 0) = 0
    · rw [if_pos hw, hw]
      refine And.intro (fun _ => ?_) (fun c => absurd rfl c)
      obtain ⟨p, hp, rfl⟩ := x_ixb_t hx (by omega)
      obtain ⟨i, c, hi, ei, ho, hcK⟩ := y_wk_0 hw
      obtain rfl : i = 1 := ((nI_eq (by decide) (by omega)).mp ei).symm
      have h1 := hT 1 (by decide)
      rw [ho] at h1
      obtain ⟨a1, a2, a3, a4, a5⟩ := h1
      have a1 : f 4 1 = nI c.2 := a1
      have a2 : f 4 2 = nI c.1 := a2
      rw [show x_c (nI 1) = 1 from rfl, show x_c (nI p) = p from nI_clamp (by omega), ho, show y_so T 1 = c.1 by unfold y_so; rw [ho]]
      have loop : ∀ m k G, k + m = v 0 0 0 → (∀ q, q ≠ 5 → G q = g q) → (∀ j, G 5 j = u_cp (g 5) (nI c.1) (v 13 p) k j) → x_J 149 (d + 3) (x_QT f g (x_HR 22 t) dm n (.int (nI (v 0 0 0)), 0, u_set T 1 (some c) (u_cp (T.2 1) (nI c.1) (v 13 p) (v 0 0 0)))) 34 [some (.ref 0), some (.int (nI p)), some (.int (nI 1)), some (.int 0), some (.int (nI k))] [] (f, G, x_HR 22 t, dm, n) 0 0 := by
        intro m
        induction m with
        | zero =>
          intro k G hk q1 q2
          obtain rfl : k = v 0 0 0 := by omega
          refine x_wp_ok ok149 [34] 6 ?_
          refine And.intro (fun cc => ?_) (fun cc => ?_)
          · refine Exists.intro _ (And.intro c_answer (And.intro (And.intro (Nat.zero_le _) (Nat.zero_le _)) (fun q h' hpo => ?_)))
            obtain ⟨rfl, rfl⟩ := hpo
            refine And.intro ?_ ⟨trivial, Nat.le_refl _, Nat.le_refl _⟩
            rw [← h0]
            refine x_QT_S (x_TC_set (F := f) (G := G) (i := 1) (c := some c) (u := u_cp (T.2 1) (nI c.1) (v 13 p) (v 0 0 0)) hT (fun _ _ => rfl) q1 ⟨a1, a2, a3, a4, fun j hj => ?_⟩) (fun _ _ => rfl) (fun q hq => q1 q (by omega))
            rw [u_cp_at]
            have e5 := q2 j
            rw [u_cp_at] at e5
            by_cases hjK : j < v 0 0 0
            · rw [if_pos hjK]
              rw [if_pos hjK] at e5
              exact e5
            · rw [if_neg hjK]
              rw [if_neg hjK] at e5
              exact e5.trans (a5 j hj)
          · have cc : ¬ f 22 0 ≤ nI (v 0 0 0) := cc
            rw [h0, nI_leI (by omega) (by omega)] at cc
            omega
        | succ m ih =>
          intro k G hk q1 q2
          have o13 : v_ok v 13 p k := show p < v 2 0 0 ∧ k < v 0 0 0 from ⟨by omega, by omega⟩
          have h13 : f 29 (4 * p + k) = nI (v 13 p k) := hC.1 13 p k o13
          have b13 : v 13 p k ≤ 9999 := (hB.1 13 p k o13).2
          refine x_wp_ok ok149 [34] 6 ?_
          refine And.intro (fun cc => ?_) (fun cc => ?_)
          · have cc : f 22 0 ≤ nI k := cc
            rw [h0, nI_leI (by omega) (by omega)] at cc
            omega
          · refine And.intro (x_ix_nI (by omega) (by omega)) ?_
            rw [nI_clamp (by omega)]
            refine Exists.intro _ (And.intro c_purse (And.intro (And.intro (Nat.zero_le _) (Nat.zero_le _)) (fun q h' hpo => ?_)))
            obtain ⟨rfl, rfl⟩ := hpo
            rw [x_pl4]
            refine And.intro (x_ix_nI (by omega) (by omega)) ?_
            rw [nI_clamp (by omega)]
            refine Exists.intro _ (And.intro (c_put_1 (j := k) (show k < 60 by omega)) (And.intro (And.intro (Nat.zero_le _) (Nat.zero_le _)) (fun q h' hpo => ?_)))
            obtain ⟨rfl, rfl⟩ := hpo
            have e := ih (k + 1) (x_up G 5 k (y_cut (f 4 2) (f 29 (4 * p + k)).toInt64)) (by omega) (fun q hq => by rw [x_up_k hq]; exact q1 q hq) (fun j => by
              show _ = va_up (u_cp (g 5) (nI c.1) (v 13 p) k) k _ j
              by_cases e : j = k
              · subst e
                rw [x_up_s, x_us, a2, h13, nI_l (by omega)]
              · rw [x_up_j e, x_un e]
                exact q2 j)
            rw [nI_succ k] at e
            exact e
      exact loop (v 0 0 0) 0 g (Nat.zero_add _) (fun _ _ => rfl) (fun _ => rfl)
    · rw [if_neg hw]
      refine And.intro (fun c => absurd c hw) (fun _ => ?_)
      refine Exists.intro _ (And.intro c_refuse (And.intro (And.intro (Nat.zero_le _) (Nat.zero_le _)) (fun q h' hpo => ?_)))
      obtain ⟨rfl, rfl⟩ := hpo
      refine And.intro ?_ ⟨trivial, Nat.le_refl _, Nat.le_refl _⟩
      exact x_QT_0 hT
theorem c_count_22_1 (hC : v_C f g 22 v) (hB : v_B v) (hT : x_TC f g T) : x_Ct 150 (d + 3) [.ref 0, .int (nI 1)] (f, g, x_HR 22 t, dm, n) (x_QT f g (x_HR 22 t) dm n (st_cnt v T (nI 1))) := by
  have bK := v_B_K hB
  have bG := v_B_G hB
  have bP := v_B_P hB
  have o0 : v_ok v 0 0 0 := ⟨rfl, rfl⟩
  have h0 : f 22 0 = nI (v 0 0 0) := hC.1 0 0 0 o0
  have b0 : v 0 0 0 ≤ 4 := (hB.1 0 0 0 o0).2
  unfold st_cnt
  refine x_Ct_w (by decide) (Nat.le_of_ble_eq_true rfl) ok150 [21] 8 ?_
  have cw : x_V 167 (d + 2) [.ref 0, .int (nI 1)] (f, g, x_HR 22 t, dm, n) (.int (y_wk T (nI 1) (v 0 0 0))) (f, g, x_HR 22 t, dm, n) := c_wrongForKinds_1_22 (d := d) (t := t) (dm := dm) (n := n) hT h0 bK
  refine Exists.intro _ (And.intro cw (And.intro (And.intro (Nat.zero_le _) (Nat.zero_le _)) (fun q h' hpo => ?_)))
  obtain ⟨rfl, rfl⟩ := hpo
  by_cases hw : y_wk T (nI 1) (v 0 0 0) = 0
  · rw [if_pos hw, hw]
    refine And.intro (fun _ => ?_) (fun c => absurd rfl c)
    obtain ⟨i, c, hi, ei, ho, hcK⟩ := y_wk_0 hw
    obtain rfl : i = 1 := ((nI_eq (by decide) (by omega)).mp ei).symm
    have h1 := hT 1 (by decide)
    rw [ho] at h1
    obtain ⟨a1, a2, a3, a4, a5⟩ := h1
    rw [show x_c (nI 1) = 1 from rfl]
    have loop : ∀ m k s l5, k + m = v 0 0 0 → y_ctf (T.2 1) (v_w v) k = some s → x_J 150 (d + 3) (x_QT f g (x_HR 22 t) dm n (match y_ctf (T.2 1) (v_w v) (v 0 0 0) with | none => (.int (-1), 5, T) | some s => (.int s, 0, T))) 21 [some (.ref 0), some (.int (nI 1)), some (.int 0), some (.int s), some (.int (nI k)), l5, none] [] (f, g, x_HR 22 t, dm, n) 0 0 := by
      intro m
      induction m with
      | zero =>
        intro k s l5 hk hs
        obtain rfl : k = v 0 0 0 := by omega
        rw [hs]
        refine x_wp_ok ok150 [21] 6 ?_
        refine And.intro (fun cc => ?_) (fun cc => ?_)
        · refine Exists.intro _ (And.intro c_answer (And.intro (And.intro (Nat.zero_le _) (Nat.zero_le _)) (fun q h' hpo => ?_)))
          obtain ⟨rfl, rfl⟩ := hpo
          refine And.intro ?_ ⟨trivial, Nat.le_refl _, Nat.le_refl _⟩
          exact x_QT_0 hT
        · have cc : ¬ f 22 0 ≤ nI (v 0 0 0) := cc
          rw [h0, nI_leI (by omega) (by omega)] at cc
          omega
      | succ m ih =>
        intro k s l5 hk hs
        have o9w : v_ok v 9 k 0 := show k < v 0 0 0 ∧ 0 = 0 from ⟨by omega, rfl⟩
        have h9w : f 25 k = nI (v 9 k 0) := hC.1 9 k 0 o9w
        have b9w : v 9 k 0 ≤ 500 := (hB.1 9 k 0 o9w).2
        have l9w : 1 ≤ v 9 k 0 := (hB.1 9 k 0 o9w).1
        have eu : g 5 k = T.2 1 k := a5 k (by omega)
        have hstep := y_ctf_s hs
        refine x_wp_ok ok150 [21] 6 ?_
        refine And.intro (fun cc => ?_) (fun cc => ?_)
        · have cc : f 22 0 ≤ nI k := cc
          rw [h0, nI_leI (by omega) (by omega)] at cc
          omega
        · refine And.intro (x_ix_nI (by omega) (by omega)) ?_
          rw [nI_clamp (by omega)]
          refine And.intro (x_ix_nI (by omega) (by omega)) ?_
          rw [nI_clamp (by omega)]
          have bad : x_wl (T.2 1 k) 0 9999 = false → (match y_ctf (T.2 1) (v_w v) (v 0 0 0) with | none => ((.int (-1), 5, T) : xU) | some s => (.int s, 0, T)) = (.int (-1), 5, T) := by
            intro hb
            rw [hb, if_neg (by decide)] at hstep
            have := y_ctf_n hstep m
            rw [show k + 1 + m = v 0 0 0 by omega] at this
            rw [this]
          refine And.intro (fun c1 => ?_) (fun c1 => ?_)
          · have c1 : lg_cmp (g 5 k) (lN 0) < 0 := c1
            rw [x_lg_lt, eu, Int64.lt_iff_toInt_lt] at c1
            rw [bad (by simp only [x_wl, Bool.and_eq_false_iff, decide_eq_false_iff_not]; exact Or.inl (Int.not_le.mpr c1))]
            refine Exists.intro _ (And.intro c_refuse (And.intro (And.intro (Nat.zero_le _) (Nat.zero_le _)) (fun q h' hpo => ?_)))
            obtain ⟨rfl, rfl⟩ := hpo
            refine And.intro ?_ ⟨trivial, Nat.le_refl _, Nat.le_refl _⟩
            exact x_QT_0 hT
          · have c1 : ¬ lg_cmp (g 5 k) (lN 0) < 0 := c1
            rw [x_lg_lt, eu, Int64.lt_iff_toInt_lt] at c1
            refine And.intro (fun c2 => ?_) (fun c2 => ?_)
            · have c2 : lg_cmp (g 5 k) (lN 9999) ≤ 0 := c2
              rw [← Int32.not_lt, x_lg_gt, eu, Int64.lt_iff_toInt_lt] at c2
              rw [if_pos (by simp only [x_wl, Bool.and_eq_true, decide_eq_true_eq]; exact ⟨Int.not_lt.mp c1, Int.not_lt.mp c2⟩)] at hstep
              refine And.intro (x_ix_nI (by omega) (by omega)) ?_
              rw [nI_clamp (by omega)]
              have e := ih (k + 1) _ (some (.long (g 5 k))) (by omega) hstep
              rw [show v_w v k = v 9 k 0 from rfl, ← h9w, ← eu, nI_succ k] at e
              exact e
            · have c2 : ¬ lg_cmp (g 5 k) (lN 9999) ≤ 0 := c2
              rw [← Int32.not_lt, x_lg_gt, eu, Int64.lt_iff_toInt_lt] at c2
              rw [bad (by simp only [x_wl, Bool.and_eq_false_iff, decide_eq_false_iff_not]; exact Or.inr (fun q => c2 (fun z => absurd (Int.lt_of_lt_of_le z q) (Int.lt_irrefl _))))]
              refine Exists.intro _ (And.intro c_refuse (And.intro (And.intro (Nat.zero_le _) (Nat.zero_le _)) (fun q h' hpo => ?_)))
              obtain ⟨rfl, rfl⟩ := hpo
              refine And.intro ?_ ⟨trivial, Nat.le_refl _, Nat.le_refl _⟩
              exact x_QT_0 hT
    exact loop (v 0 0 0) 0 0 none (Nat.zero_add _) rfl
  · rw [if_neg hw]
    refine And.intro (fun c => absurd c hw) (fun _ => ?_)
    refine Exists.intro _ (And.intro c_refuse (And.intro (And.intro (Nat.zero_le _) (Nat.zero_le _)) (fun q h' hpo => ?_)))
    obtain ⟨rfl, rfl⟩ := hpo
    refine And.intro ?_ ⟨trivial, Nat.le_refl _, Nat.le_refl _⟩
    exact x_QT_0 hT
theorem c_copySheets_22_2 {x : Int32} (hC : v_C f g 22 v) (hB : v_B v) (hT : x_TC f g T) : x_Ct 149 (d + 3) [.ref 0, .int x, .int (nI 2)] (f, g, x_HR 22 t, dm, n) (x_QT f g (x_HR 22 t) dm n (st_copy v T x (nI 2))) := by
  have bK := v_B_K hB
  have bG := v_B_G hB
  have bP := v_B_P hB
  have o0 : v_ok v 0 0 0 := ⟨rfl, rfl⟩
  have h0 : f 22 0 = nI (v 0 0 0) := hC.1 0 0 0 o0
  have b0 : v 0 0 0 ≤ 4 := (hB.1 0 0 0 o0).2
  have o2 : v_ok v 2 0 0 := ⟨rfl, rfl⟩
  have h2 : f 22 2 = nI (v 2 0 0) := hC.1 2 0 0 o2
  have b2 : v 2 0 0 ≤ 5 := (hB.1 2 0 0 o2).2
  unfold st_copy
  refine x_Ct_w (by decide) (Nat.le_of_ble_eq_true rfl) ok149 [34] 8 ?_
  refine Exists.intro _ (And.intro (c_hasPerson rfl h2 bP) (And.intro (And.intro (Nat.zero_le _) (Nat.zero_le _)) (fun q h' hpo => ?_)))
  obtain ⟨rfl, rfl⟩ := hpo
  cases hx : x_ixb x (v 2 0 0) with
  | false =>
    rw [if_neg (by decide)]
    refine And.intro (fun _ => ?_) (fun c => absurd rfl c)
    refine And.intro (fun c => absurd c (by decide)) (fun _ => ?_)
    refine Exists.intro _ (And.intro c_refuse (And.intro (And.intro (Nat.zero_le _) (Nat.zero_le _)) (fun q h' hpo => ?_)))
    obtain ⟨rfl, rfl⟩ := hpo
    refine And.intro ?_ ⟨trivial, Nat.le_refl _, Nat.le_refl _⟩
    exact x_QT_0 hT
  | true =>
    rw [if_pos rfl]
    refine And.intro (fun c => absurd c (by decide)) (fun _ => ?_)
    have cw : x_V 167 (d + 2) [.ref 0, .int (nI 2)] (f, g, x_HR 22 t, dm, n) (.int (y_wk T (nI 2) (v 0 0 0))) (f, g, x_HR 22 t, dm, n) := c_wrongForKinds_2_22 (d := d) (t := t) (dm := dm) (n := n) hT h0 bK
    refine Exists.intro _ (And.intro cw (And.intro (And.intro (Nat.zero_le _) (Nat.zero_le _)) (fun q h' hpo => ?_)))
    obtain ⟨rfl, rfl⟩ := hpo
    by_cases hw : y_wk T (nI 2) (v 0 0 0) = 0
    · rw [if_pos hw, hw]
      refine And.intro (fun _ => ?_) (fun c => absurd rfl c)
      obtain ⟨p, hp, rfl⟩ := x_ixb_t hx (by omega)
      obtain ⟨i, c, hi, ei, ho, hcK⟩ := y_wk_0 hw
      obtain rfl : i = 2 := ((nI_eq (by decide) (by omega)).mp ei).symm
      have h1 := hT 2 (by decide)
      rw [ho] at h1
      obtain ⟨a1, a2, a3, a4, a5⟩ := h1
      have a1 : f 6 1 = nI c.2 := a1
      have a2 : f 6 2 = nI c.1 := a2
      rw [show x_c (nI 2) = 2 from rfl, show x_c (nI p) = p from nI_clamp (by omega), ho, show y_so T 2 = c.1 by unfold y_so; rw [ho]]
      have loop : ∀ m k G, k + m = v 0 0 0 → (∀ q, q ≠ 7 → G q = g q) → (∀ j, G 7 j = u_cp (g 7) (nI c.1) (v 13 p) k j) → x_J 149 (d + 3) (x_QT f g (x_HR 22 t) dm n (.int (nI (v 0 0 0)), 0, u_set T 2 (some c) (u_cp (T.2 2) (nI c.1) (v 13 p) (v 0 0 0)))) 34 [some (.ref 0), some (.int (nI p)), some (.int (nI 2)), some (.int 0), some (.int (nI k))] [] (f, G, x_HR 22 t, dm, n) 0 0 := by
        intro m
        induction m with
        | zero =>
          intro k G hk q1 q2
          obtain rfl : k = v 0 0 0 := by omega
          refine x_wp_ok ok149 [34] 6 ?_
          refine And.intro (fun cc => ?_) (fun cc => ?_)
          · refine Exists.intro _ (And.intro c_answer (And.intro (And.intro (Nat.zero_le _) (Nat.zero_le _)) (fun q h' hpo => ?_)))
            obtain ⟨rfl, rfl⟩ := hpo
            refine And.intro ?_ ⟨trivial, Nat.le_refl _, Nat.le_refl _⟩
            rw [← h0]
            refine x_QT_S (x_TC_set (F := f) (G := G) (i := 2) (c := some c) (u := u_cp (T.2 2) (nI c.1) (v 13 p) (v 0 0 0)) hT (fun _ _ => rfl) q1 ⟨a1, a2, a3, a4, fun j hj => ?_⟩) (fun _ _ => rfl) (fun q hq => q1 q (by omega))
            rw [u_cp_at]
            have e5 := q2 j
            rw [u_cp_at] at e5
            by_cases hjK : j < v 0 0 0
            · rw [if_pos hjK]
              rw [if_pos hjK] at e5
              exact e5
            · rw [if_neg hjK]
              rw [if_neg hjK] at e5
              exact e5.trans (a5 j hj)
          · have cc : ¬ f 22 0 ≤ nI (v 0 0 0) := cc
            rw [h0, nI_leI (by omega) (by omega)] at cc
            omega
        | succ m ih =>
          intro k G hk q1 q2
          have o13 : v_ok v 13 p k := show p < v 2 0 0 ∧ k < v 0 0 0 from ⟨by omega, by omega⟩
          have h13 : f 29 (4 * p + k) = nI (v 13 p k) := hC.1 13 p k o13
          have b13 : v 13 p k ≤ 9999 := (hB.1 13 p k o13).2
          refine x_wp_ok ok149 [34] 6 ?_
          refine And.intro (fun cc => ?_) (fun cc => ?_)
          · have cc : f 22 0 ≤ nI k := cc
            rw [h0, nI_leI (by omega) (by omega)] at cc
            omega
          · refine And.intro (x_ix_nI (by omega) (by omega)) ?_
            rw [nI_clamp (by omega)]
            refine Exists.intro _ (And.intro c_purse (And.intro (And.intro (Nat.zero_le _) (Nat.zero_le _)) (fun q h' hpo => ?_)))
            obtain ⟨rfl, rfl⟩ := hpo
            rw [x_pl4]
            refine And.intro (x_ix_nI (by omega) (by omega)) ?_
            rw [nI_clamp (by omega)]
            refine Exists.intro _ (And.intro (c_put_2 (j := k) (show k < 60 by omega)) (And.intro (And.intro (Nat.zero_le _) (Nat.zero_le _)) (fun q h' hpo => ?_)))
            obtain ⟨rfl, rfl⟩ := hpo
            have e := ih (k + 1) (x_up G 7 k (y_cut (f 6 2) (f 29 (4 * p + k)).toInt64)) (by omega) (fun q hq => by rw [x_up_k hq]; exact q1 q hq) (fun j => by
              show _ = va_up (u_cp (g 7) (nI c.1) (v 13 p) k) k _ j
              by_cases e : j = k
              · subst e
                rw [x_up_s, x_us, a2, h13, nI_l (by omega)]
              · rw [x_up_j e, x_un e]
                exact q2 j)
            rw [nI_succ k] at e
            exact e
      exact loop (v 0 0 0) 0 g (Nat.zero_add _) (fun _ _ => rfl) (fun _ => rfl)
    · rw [if_neg hw]
      refine And.intro (fun c => absurd c hw) (fun _ => ?_)
      refine Exists.intro _ (And.intro c_refuse (And.intro (And.intro (Nat.zero_le _) (Nat.zero_le _)) (fun q h' hpo => ?_)))
      obtain ⟨rfl, rfl⟩ := hpo
      refine And.intro ?_ ⟨trivial, Nat.le_refl _, Nat.le_refl _⟩
      exact x_QT_0 hT
theorem c_count_22_2 (hC : v_C f g 22 v) (hB : v_B v) (hT : x_TC f g T) : x_Ct 150 (d + 3) [.ref 0, .int (nI 2)] (f, g, x_HR 22 t, dm, n) (x_QT f g (x_HR 22 t) dm n (st_cnt v T (nI 2))) := by
  have bK := v_B_K hB
  have bG := v_B_G hB
  have bP := v_B_P hB
  have o0 : v_ok v 0 0 0 := ⟨rfl, rfl⟩
  have h0 : f 22 0 = nI (v 0 0 0) := hC.1 0 0 0 o0
  have b0 : v 0 0 0 ≤ 4 := (hB.1 0 0 0 o0).2
  unfold st_cnt
  refine x_Ct_w (by decide) (Nat.le_of_ble_eq_true rfl) ok150 [21] 8 ?_
  have cw : x_V 167 (d + 2) [.ref 0, .int (nI 2)] (f, g, x_HR 22 t, dm, n) (.int (y_wk T (nI 2) (v 0 0 0))) (f, g, x_HR 22 t, dm, n) := c_wrongForKinds_2_22 (d := d) (t := t) (dm := dm) (n := n) hT h0 bK
  refine Exists.intro _ (And.intro cw (And.intro (And.intro (Nat.zero_le _) (Nat.zero_le _)) (fun q h' hpo => ?_)))
  obtain ⟨rfl, rfl⟩ := hpo
  by_cases hw : y_wk T (nI 2) (v 0 0 0) = 0
  · rw [if_pos hw, hw]
    refine And.intro (fun _ => ?_) (fun c => absurd rfl c)
    obtain ⟨i, c, hi, ei, ho, hcK⟩ := y_wk_0 hw
    obtain rfl : i = 2 := ((nI_eq (by decide) (by omega)).mp ei).symm
    have h1 := hT 2 (by decide)
    rw [ho] at h1
    obtain ⟨a1, a2, a3, a4, a5⟩ := h1
    rw [show x_c (nI 2) = 2 from rfl]
    have loop : ∀ m k s l5, k + m = v 0 0 0 → y_ctf (T.2 2) (v_w v) k = some s → x_J 150 (d + 3) (x_QT f g (x_HR 22 t) dm n (match y_ctf (T.2 2) (v_w v) (v 0 0 0) with | none => (.int (-1), 5, T) | some s => (.int s, 0, T))) 21 [some (.ref 0), some (.int (nI 2)), some (.int 0), some (.int s), some (.int (nI k)), l5, none] [] (f, g, x_HR 22 t, dm, n) 0 0 := by
      intro m
      induction m with
      | zero =>
        intro k s l5 hk hs
        obtain rfl : k = v 0 0 0 := by omega
        rw [hs]
        refine x_wp_ok ok150 [21] 6 ?_
        refine And.intro (fun cc => ?_) (fun cc => ?_)
        · refine Exists.intro _ (And.intro c_answer (And.intro (And.intro (Nat.zero_le _) (Nat.zero_le _)) (fun q h' hpo => ?_)))
          obtain ⟨rfl, rfl⟩ := hpo
          refine And.intro ?_ ⟨trivial, Nat.le_refl _, Nat.le_refl _⟩
          exact x_QT_0 hT
        · have cc : ¬ f 22 0 ≤ nI (v 0 0 0) := cc
          rw [h0, nI_leI (by omega) (by omega)] at cc
          omega
      | succ m ih =>
        intro k s l5 hk hs
        have o9w : v_ok v 9 k 0 := show k < v 0 0 0 ∧ 0 = 0 from ⟨by omega, rfl⟩
        have h9w : f 25 k = nI (v 9 k 0) := hC.1 9 k 0 o9w
        have b9w : v 9 k 0 ≤ 500 := (hB.1 9 k 0 o9w).2
        have l9w : 1 ≤ v 9 k 0 := (hB.1 9 k 0 o9w).1
        have eu : g 7 k = T.2 2 k := a5 k (by omega)
        have hstep := y_ctf_s hs
        refine x_wp_ok ok150 [21] 6 ?_
        refine And.intro (fun cc => ?_) (fun cc => ?_)
        · have cc : f 22 0 ≤ nI k := cc
          rw [h0, nI_leI (by omega) (by omega)] at cc
          omega
        · refine And.intro (x_ix_nI (by omega) (by omega)) ?_
          rw [nI_clamp (by omega)]
          refine And.intro (x_ix_nI (by omega) (by omega)) ?_
          rw [nI_clamp (by omega)]
          have bad : x_wl (T.2 2 k) 0 9999 = false → (match y_ctf (T.2 2) (v_w v) (v 0 0 0) with | none => ((.int (-1), 5, T) : xU) | some s => (.int s, 0, T)) = (.int (-1), 5, T) := by
            intro hb
            rw [hb, if_neg (by decide)] at hstep
            have := y_ctf_n hstep m
            rw [show k + 1 + m = v 0 0 0 by omega] at this
            rw [this]
          refine And.intro (fun c1 => ?_) (fun c1 => ?_)
          · have c1 : lg_cmp (g 7 k) (lN 0) < 0 := c1
            rw [x_lg_lt, eu, Int64.lt_iff_toInt_lt] at c1
            rw [bad (by simp only [x_wl, Bool.and_eq_false_iff, decide_eq_false_iff_not]; exact Or.inl (Int.not_le.mpr c1))]
            refine Exists.intro _ (And.intro c_refuse (And.intro (And.intro (Nat.zero_le _) (Nat.zero_le _)) (fun q h' hpo => ?_)))
            obtain ⟨rfl, rfl⟩ := hpo
            refine And.intro ?_ ⟨trivial, Nat.le_refl _, Nat.le_refl _⟩
            exact x_QT_0 hT
          · have c1 : ¬ lg_cmp (g 7 k) (lN 0) < 0 := c1
            rw [x_lg_lt, eu, Int64.lt_iff_toInt_lt] at c1
            refine And.intro (fun c2 => ?_) (fun c2 => ?_)
            · have c2 : lg_cmp (g 7 k) (lN 9999) ≤ 0 := c2
              rw [← Int32.not_lt, x_lg_gt, eu, Int64.lt_iff_toInt_lt] at c2
              rw [if_pos (by simp only [x_wl, Bool.and_eq_true, decide_eq_true_eq]; exact ⟨Int.not_lt.mp c1, Int.not_lt.mp c2⟩)] at hstep
              refine And.intro (x_ix_nI (by omega) (by omega)) ?_
              rw [nI_clamp (by omega)]
              have e := ih (k + 1) _ (some (.long (g 7 k))) (by omega) hstep
              rw [show v_w v k = v 9 k 0 from rfl, ← h9w, ← eu, nI_succ k] at e
              exact e
            · have c2 : ¬ lg_cmp (g 7 k) (lN 9999) ≤ 0 := c2
              rw [← Int32.not_lt, x_lg_gt, eu, Int64.lt_iff_toInt_lt] at c2
              rw [bad (by simp only [x_wl, Bool.and_eq_false_iff, decide_eq_false_iff_not]; exact Or.inr (fun q => c2 (fun z => absurd (Int.lt_of_lt_of_le z q) (Int.lt_irrefl _))))]
              refine Exists.intro _ (And.intro c_refuse (And.intro (And.intro (Nat.zero_le _) (Nat.zero_le _)) (fun q h' hpo => ?_)))
              obtain ⟨rfl, rfl⟩ := hpo
              refine And.intro ?_ ⟨trivial, Nat.le_refl _, Nat.le_refl _⟩
              exact x_QT_0 hT
    exact loop (v 0 0 0) 0 0 none (Nat.zero_add _) rfl
  · rw [if_neg hw]
    refine And.intro (fun c => absurd c hw) (fun _ => ?_)
    refine Exists.intro _ (And.intro c_refuse (And.intro (And.intro (Nat.zero_le _) (Nat.zero_le _)) (fun q h' hpo => ?_)))
    obtain ⟨rfl, rfl⟩ := hpo
    refine And.intro ?_ ⟨trivial, Nat.le_refl _, Nat.le_refl _⟩
    exact x_QT_0 hT
theorem c_copySheets_22_3 {x : Int32} (hC : v_C f g 22 v) (hB : v_B v) (hT : x_TC f g T) : x_Ct 149 (d + 3) [.ref 0, .int x, .int (nI 3)] (f, g, x_HR 22 t, dm, n) (x_QT f g (x_HR 22 t) dm n (st_copy v T x (nI 3))) := by
  have bK := v_B_K hB
  have bG := v_B_G hB
  have bP := v_B_P hB
  have o0 : v_ok v 0 0 0 := ⟨rfl, rfl⟩
  have h0 : f 22 0 = nI (v 0 0 0) := hC.1 0 0 0 o0
  have b0 : v 0 0 0 ≤ 4 := (hB.1 0 0 0 o0).2
  have o2 : v_ok v 2 0 0 := ⟨rfl, rfl⟩
  have h2 : f 22 2 = nI (v 2 0 0) := hC.1 2 0 0 o2
  have b2 : v 2 0 0 ≤ 5 := (hB.1 2 0 0 o2).2
  unfold st_copy
  refine x_Ct_w (by decide) (Nat.le_of_ble_eq_true rfl) ok149 [34] 8 ?_
  refine Exists.intro _ (And.intro (c_hasPerson rfl h2 bP) (And.intro (And.intro (Nat.zero_le _) (Nat.zero_le _)) (fun q h' hpo => ?_)))
  obtain ⟨rfl, rfl⟩ := hpo
  cases hx : x_ixb x (v 2 0 0) with
  | false =>
    rw [if_neg (by decide)]
    refine And.intro (fun _ => ?_) (fun c => absurd rfl c)
    refine And.intro (fun c => absurd c (by decide)) (fun _ => ?_)
    refine Exists.intro _ (And.intro c_refuse (And.intro (And.intro (Nat.zero_le _) (Nat.zero_le _)) (fun q h' hpo => ?_)))
    obtain ⟨rfl, rfl⟩ := hpo
    refine And.intro ?_ ⟨trivial, Nat.le_refl _, Nat.le_refl _⟩
    exact x_QT_0 hT
  | true =>
    rw [if_pos rfl]
    refine And.intro (fun c => absurd c (by decide)) (fun _ => ?_)
    have cw : x_V 167 (d + 2) [.ref 0, .int (nI 3)] (f, g, x_HR 22 t, dm, n) (.int (y_wk T (nI 3) (v 0 0 0))) (f, g, x_HR 22 t, dm, n) := c_wrongForKinds_3_22 (d := d) (t := t) (dm := dm) (n := n) hT h0 bK
    refine Exists.intro _ (And.intro cw (And.intro (And.intro (Nat.zero_le _) (Nat.zero_le _)) (fun q h' hpo => ?_)))
    obtain ⟨rfl, rfl⟩ := hpo
    by_cases hw : y_wk T (nI 3) (v 0 0 0) = 0
    · rw [if_pos hw, hw]
      refine And.intro (fun _ => ?_) (fun c => absurd rfl c)
      obtain ⟨p, hp, rfl⟩ := x_ixb_t hx (by omega)
      obtain ⟨i, c, hi, ei, ho, hcK⟩ := y_wk_0 hw
      obtain rfl : i = 3 := ((nI_eq (by decide) (by omega)).mp ei).symm
      have h1 := hT 3 (by decide)
      rw [ho] at h1
      obtain ⟨a1, a2, a3, a4, a5⟩ := h1
      have a1 : f 8 1 = nI c.2 := a1
      have a2 : f 8 2 = nI c.1 := a2
      rw [show x_c (nI 3) = 3 from rfl, show x_c (nI p) = p from nI_clamp (by omega), ho, show y_so T 3 = c.1 by unfold y_so; rw [ho]]
      have loop : ∀ m k G, k + m = v 0 0 0 → (∀ q, q ≠ 9 → G q = g q) → (∀ j, G 9 j = u_cp (g 9) (nI c.1) (v 13 p) k j) → x_J 149 (d + 3) (x_QT f g (x_HR 22 t) dm n (.int (nI (v 0 0 0)), 0, u_set T 3 (some c) (u_cp (T.2 3) (nI c.1) (v 13 p) (v 0 0 0)))) 34 [some (.ref 0), some (.int (nI p)), some (.int (nI 3)), some (.int 0), some (.int (nI k))] [] (f, G, x_HR 22 t, dm, n) 0 0 := by
        intro m
        induction m with
        | zero =>
          intro k G hk q1 q2
          obtain rfl : k = v 0 0 0 := by omega
          refine x_wp_ok ok149 [34] 6 ?_
          refine And.intro (fun cc => ?_) (fun cc => ?_)
          · refine Exists.intro _ (And.intro c_answer (And.intro (And.intro (Nat.zero_le _) (Nat.zero_le _)) (fun q h' hpo => ?_)))
            obtain ⟨rfl, rfl⟩ := hpo
            refine And.intro ?_ ⟨trivial, Nat.le_refl _, Nat.le_refl _⟩
            rw [← h0]
            refine x_QT_S (x_TC_set (F := f) (G := G) (i := 3) (c := some c) (u := u_cp (T.2 3) (nI c.1) (v 13 p) (v 0 0 0)) hT (fun _ _ => rfl) q1 ⟨a1, a2, a3, a4, fun j hj => ?_⟩) (fun _ _ => rfl) (fun q hq => q1 q (by omega))
            rw [u_cp_at]
            have e5 := q2 j
            rw [u_cp_at] at e5
            by_cases hjK : j < v 0 0 0
            · rw [if_pos hjK]
              rw [if_pos hjK] at e5
              exact e5
            · rw [if_neg hjK]
              rw [if_neg hjK] at e5
              exact e5.trans (a5 j hj)
          · have cc : ¬ f 22 0 ≤ nI (v 0 0 0) := cc
            rw [h0, nI_leI (by omega) (by omega)] at cc
            omega
        | succ m ih =>
          intro k G hk q1 q2
          have o13 : v_ok v 13 p k := show p < v 2 0 0 ∧ k < v 0 0 0 from ⟨by omega, by omega⟩
          have h13 : f 29 (4 * p + k) = nI (v 13 p k) := hC.1 13 p k o13
          have b13 : v 13 p k ≤ 9999 := (hB.1 13 p k o13).2
          refine x_wp_ok ok149 [34] 6 ?_
          refine And.intro (fun cc => ?_) (fun cc => ?_)
          · have cc : f 22 0 ≤ nI k := cc
            rw [h0, nI_leI (by omega) (by omega)] at cc
            omega
          · refine And.intro (x_ix_nI (by omega) (by omega)) ?_
            rw [nI_clamp (by omega)]
            refine Exists.intro _ (And.intro c_purse (And.intro (And.intro (Nat.zero_le _) (Nat.zero_le _)) (fun q h' hpo => ?_)))
            obtain ⟨rfl, rfl⟩ := hpo
            rw [x_pl4]
            refine And.intro (x_ix_nI (by omega) (by omega)) ?_
            rw [nI_clamp (by omega)]
            refine Exists.intro _ (And.intro (c_put_3 (j := k) (show k < 60 by omega)) (And.intro (And.intro (Nat.zero_le _) (Nat.zero_le _)) (fun q h' hpo => ?_)))
            obtain ⟨rfl, rfl⟩ := hpo
            have e := ih (k + 1) (x_up G 9 k (y_cut (f 8 2) (f 29 (4 * p + k)).toInt64)) (by omega) (fun q hq => by rw [x_up_k hq]; exact q1 q hq) (fun j => by
              show _ = va_up (u_cp (g 9) (nI c.1) (v 13 p) k) k _ j
              by_cases e : j = k
              · subst e
                rw [x_up_s, x_us, a2, h13, nI_l (by omega)]
              · rw [x_up_j e, x_un e]
                exact q2 j)
            rw [nI_succ k] at e
            exact e
      exact loop (v 0 0 0) 0 g (Nat.zero_add _) (fun _ _ => rfl) (fun _ => rfl)
    · rw [if_neg hw]
      refine And.intro (fun c => absurd c hw) (fun _ => ?_)
      refine Exists.intro _ (And.intro c_refuse (And.intro (And.intro (Nat.zero_le _) (Nat.zero_le _)) (fun q h' hpo => ?_)))
      obtain ⟨rfl, rfl⟩ := hpo
      refine And.intro ?_ ⟨trivial, Nat.le_refl _, Nat.le_refl _⟩
      exact x_QT_0 hT
theorem c_count_22_3 (hC : v_C f g 22 v) (hB : v_B v) (hT : x_TC f g T) : x_Ct 150 (d + 3) [.ref 0, .int (nI 3)] (f, g, x_HR 22 t, dm, n) (x_QT f g (x_HR 22 t) dm n (st_cnt v T (nI 3))) := by
  have bK := v_B_K hB
  have bG := v_B_G hB
  have bP := v_B_P hB
  have o0 : v_ok v 0 0 0 := ⟨rfl, rfl⟩
  have h0 : f 22 0 = nI (v 0 0 0) := hC.1 0 0 0 o0
  have b0 : v 0 0 0 ≤ 4 := (hB.1 0 0 0 o0).2
  unfold st_cnt
  refine x_Ct_w (by decide) (Nat.le_of_ble_eq_true rfl) ok150 [21] 8 ?_
  have cw : x_V 167 (d + 2) [.ref 0, .int (nI 3)] (f, g, x_HR 22 t, dm, n) (.int (y_wk T (nI 3) (v 0 0 0))) (f, g, x_HR 22 t, dm, n) := c_wrongForKinds_3_22 (d := d) (t := t) (dm := dm) (n := n) hT h0 bK
  refine Exists.intro _ (And.intro cw (And.intro (And.intro (Nat.zero_le _) (Nat.zero_le _)) (fun q h' hpo => ?_)))
  obtain ⟨rfl, rfl⟩ := hpo
  by_cases hw : y_wk T (nI 3) (v 0 0 0) = 0
  · rw [if_pos hw, hw]
    refine And.intro (fun _ => ?_) (fun c => absurd rfl c)
    obtain ⟨i, c, hi, ei, ho, hcK⟩ := y_wk_0 hw
    obtain rfl : i = 3 := ((nI_eq (by decide) (by omega)).mp ei).symm
    have h1 := hT 3 (by decide)
    rw [ho] at h1
    obtain ⟨a1, a2, a3, a4, a5⟩ := h1
    rw [show x_c (nI 3) = 3 from rfl]
    have loop : ∀ m k s l5, k + m = v 0 0 0 → y_ctf (T.2 3) (v_w v) k = some s → x_J 150 (d + 3) (x_QT f g (x_HR 22 t) dm n (match y_ctf (T.2 3) (v_w v) (v 0 0 0) with | none => (.int (-1), 5, T) | some s => (.int s, 0, T))) 21 [some (.ref 0), some (.int (nI 3)), some (.int 0), some (.int s), some (.int (nI k)), l5, none] [] (f, g, x_HR 22 t, dm, n) 0 0 := by
      intro m
      induction m with
      | zero =>
        intro k s l5 hk hs
        obtain rfl : k = v 0 0 0 := by omega
        rw [hs]
        refine x_wp_ok ok150 [21] 6 ?_
        refine And.intro (fun cc => ?_) (fun cc => ?_)
        · refine Exists.intro _ (And.intro c_answer (And.intro (And.intro (Nat.zero_le _) (Nat.zero_le _)) (fun q h' hpo => ?_)))
          obtain ⟨rfl, rfl⟩ := hpo
          refine And.intro ?_ ⟨trivial, Nat.le_refl _, Nat.le_refl _⟩
          exact x_QT_0 hT
        · have cc : ¬ f 22 0 ≤ nI (v 0 0 0) := cc
          rw [h0, nI_leI (by omega) (by omega)] at cc
          omega
      | succ m ih =>
        intro k s l5 hk hs
        have o9w : v_ok v 9 k 0 := show k < v 0 0 0 ∧ 0 = 0 from ⟨by omega, rfl⟩
        have h9w : f 25 k = nI (v 9 k 0) := hC.1 9 k 0 o9w
        have b9w : v 9 k 0 ≤ 500 := (hB.1 9 k 0 o9w).2
        have l9w : 1 ≤ v 9 k 0 := (hB.1 9 k 0 o9w).1
        have eu : g 9 k = T.2 3 k := a5 k (by omega)
        have hstep := y_ctf_s hs
        refine x_wp_ok ok150 [21] 6 ?_
        refine And.intro (fun cc => ?_) (fun cc => ?_)
        · have cc : f 22 0 ≤ nI k := cc
          rw [h0, nI_leI (by omega) (by omega)] at cc
          omega
        · refine And.intro (x_ix_nI (by omega) (by omega)) ?_
          rw [nI_clamp (by omega)]
          refine And.intro (x_ix_nI (by omega) (by omega)) ?_
          rw [nI_clamp (by omega)]
          have bad : x_wl (T.2 3 k) 0 9999 = false → (match y_ctf (T.2 3) (v_w v) (v 0 0 0) with | none => ((.int (-1), 5, T) : xU) | some s => (.int s, 0, T)) = (.int (-1), 5, T) := by
            intro hb
            rw [hb, if_neg (by decide)] at hstep
            have := y_ctf_n hstep m
            rw [show k + 1 + m = v 0 0 0 by omega] at this
            rw [this]
          refine And.intro (fun c1 => ?_) (fun c1 => ?_)
          · have c1 : lg_cmp (g 9 k) (lN 0) < 0 := c1
            rw [x_lg_lt, eu, Int64.lt_iff_toInt_lt] at c1
            rw [bad (by simp only [x_wl, Bool.and_eq_false_iff, decide_eq_false_iff_not]; exact Or.inl (Int.not_le.mpr c1))]
            refine Exists.intro _ (And.intro c_refuse (And.intro (And.intro (Nat.zero_le _) (Nat.zero_le _)) (fun q h' hpo => ?_)))
            obtain ⟨rfl, rfl⟩ := hpo
            refine And.intro ?_ ⟨trivial, Nat.le_refl _, Nat.le_refl _⟩
            exact x_QT_0 hT
          · have c1 : ¬ lg_cmp (g 9 k) (lN 0) < 0 := c1
            rw [x_lg_lt, eu, Int64.lt_iff_toInt_lt] at c1
            refine And.intro (fun c2 => ?_) (fun c2 => ?_)
            · have c2 : lg_cmp (g 9 k) (lN 9999) ≤ 0 := c2
              rw [← Int32.not_lt, x_lg_gt, eu, Int64.lt_iff_toInt_lt] at c2
              rw [if_pos (by simp only [x_wl, Bool.and_eq_true, decide_eq_true_eq]; exact ⟨Int.not_lt.mp c1, Int.not_lt.mp c2⟩)] at hstep
              refine And.intro (x_ix_nI (by omega) (by omega)) ?_
              rw [nI_clamp (by omega)]
              have e := ih (k + 1) _ (some (.long (g 9 k))) (by omega) hstep
              rw [show v_w v k = v 9 k 0 from rfl, ← h9w, ← eu, nI_succ k] at e
              exact e
            · have c2 : ¬ lg_cmp (g 9 k) (lN 9999) ≤ 0 := c2
              rw [← Int32.not_lt, x_lg_gt, eu, Int64.lt_iff_toInt_lt] at c2
              rw [bad (by simp only [x_wl, Bool.and_eq_false_iff, decide_eq_false_iff_not]; exact Or.inr (fun q => c2 (fun z => absurd (Int.lt_of_lt_of_le z q) (Int.lt_irrefl _))))]
              refine Exists.intro _ (And.intro c_refuse (And.intro (And.intro (Nat.zero_le _) (Nat.zero_le _)) (fun q h' hpo => ?_)))
              obtain ⟨rfl, rfl⟩ := hpo
              refine And.intro ?_ ⟨trivial, Nat.le_refl _, Nat.le_refl _⟩
              exact x_QT_0 hT
    exact loop (v 0 0 0) 0 0 none (Nat.zero_add _) rfl
  · rw [if_neg hw]
    refine And.intro (fun c => absurd c hw) (fun _ => ?_)
    refine Exists.intro _ (And.intro c_refuse (And.intro (And.intro (Nat.zero_le _) (Nat.zero_le _)) (fun q h' hpo => ?_)))
    obtain ⟨rfl, rfl⟩ := hpo
    refine And.intro ?_ ⟨trivial, Nat.le_refl _, Nat.le_refl _⟩
    exact x_QT_0 hT
theorem c_wrongForKinds_22_n {y : Int32} (hy : x_wi y 0 3 = false) : x_V 167 (d + 2) [.ref 0, .int y] (f, g, x_HR 22 t, dm, n) (.int 1) (f, g, x_HR 22 t, dm, n) := by
  refine x_Ct_w (by decide) (Nat.le_of_ble_eq_true rfl) ok167 [] 8 ?_
  refine Exists.intro _ (And.intro c_isTray (And.intro (And.intro (Nat.zero_le _) (Nat.zero_le _)) (fun q h' hpo => ?_)))
  obtain ⟨rfl, rfl⟩ := hpo
  rw [hy]
  refine And.intro (fun c => absurd rfl c) (fun _ => ?_)
  exact And.intro ⟨rfl, rfl⟩ ⟨trivial, Nat.le_refl _, Nat.le_refl _⟩
theorem c_copySheets_22 {x y : Int32} (hC : v_C f g 22 v) (hB : v_B v) (hT : x_TC f g T) : x_Ct 149 (d + 3) [.ref 0, .int x, .int y] (f, g, x_HR 22 t, dm, n) (x_QT f g (x_HR 22 t) dm n (st_copy v T x y)) := by
  cases hy : x_wi y 0 3 with
  | true =>
    rcases x_wi_3 hy with rfl | rfl | rfl | rfl
    · exact c_copySheets_22_0 hC hB hT
    · exact c_copySheets_22_1 hC hB hT
    · exact c_copySheets_22_2 hC hB hT
    · exact c_copySheets_22_3 hC hB hT
  | false =>
    have bK := v_B_K hB
    have bG := v_B_G hB
    have bP := v_B_P hB
    have o2 : v_ok v 2 0 0 := ⟨rfl, rfl⟩
    have h2 : f 22 2 = nI (v 2 0 0) := hC.1 2 0 0 o2
    have b2 : v 2 0 0 ≤ 5 := (hB.1 2 0 0 o2).2
    have hw : y_wk T y (v 0 0 0) = 1 := if_neg (x_wi_n3 hy)
    unfold st_copy
    rw [hw, if_neg (show ¬ (1 : Int32) = 0 by decide)]
    refine x_Ct_w (by decide) (Nat.le_of_ble_eq_true rfl) ok149 [34] 8 ?_
    refine Exists.intro _ (And.intro (c_hasPerson rfl h2 bP) (And.intro (And.intro (Nat.zero_le _) (Nat.zero_le _)) (fun q h' hpo => ?_)))
    obtain ⟨rfl, rfl⟩ := hpo
    cases hx : x_ixb x (v 2 0 0) with
    | false =>
      rw [if_neg (by decide)]
      refine And.intro (fun _ => ?_) (fun c => absurd rfl c)
      refine And.intro (fun c => absurd c (by decide)) (fun _ => ?_)
      refine Exists.intro _ (And.intro c_refuse (And.intro (And.intro (Nat.zero_le _) (Nat.zero_le _)) (fun q h' hpo => ?_)))
      obtain ⟨rfl, rfl⟩ := hpo
      refine And.intro ?_ ⟨trivial, Nat.le_refl _, Nat.le_refl _⟩
      exact x_QT_0 hT
    | true =>
      rw [if_pos rfl]
      refine And.intro (fun c => absurd c (by decide)) (fun _ => ?_)
      refine Exists.intro _ (And.intro (c_wrongForKinds_22_n hy) (And.intro (And.intro (Nat.zero_le _) (Nat.zero_le _)) (fun q h' hpo => ?_)))
      obtain ⟨rfl, rfl⟩ := hpo
      refine And.intro (fun c => absurd c (by decide)) (fun _ => ?_)
      refine Exists.intro _ (And.intro c_refuse (And.intro (And.intro (Nat.zero_le _) (Nat.zero_le _)) (fun q h' hpo => ?_)))
      obtain ⟨rfl, rfl⟩ := hpo
      refine And.intro ?_ ⟨trivial, Nat.le_refl _, Nat.le_refl _⟩
      exact x_QT_0 hT
theorem c_count_22 {y : Int32} (hC : v_C f g 22 v) (hB : v_B v) (hT : x_TC f g T) : x_Ct 150 (d + 3) [.ref 0, .int y] (f, g, x_HR 22 t, dm, n) (x_QT f g (x_HR 22 t) dm n (st_cnt v T y)) := by
  cases hy : x_wi y 0 3 with
  | true =>
    rcases x_wi_3 hy with rfl | rfl | rfl | rfl
    · exact c_count_22_0 hC hB hT
    · exact c_count_22_1 hC hB hT
    · exact c_count_22_2 hC hB hT
    · exact c_count_22_3 hC hB hT
  | false =>
    have hw : y_wk T y (v 0 0 0) = 1 := if_neg (x_wi_n3 hy)
    unfold st_cnt
    rw [hw, if_neg (show ¬ (1 : Int32) = 0 by decide)]
    refine x_Ct_w (by decide) (Nat.le_of_ble_eq_true rfl) ok150 [21] 8 ?_
    refine Exists.intro _ (And.intro (c_wrongForKinds_22_n hy) (And.intro (And.intro (Nat.zero_le _) (Nat.zero_le _)) (fun q h' hpo => ?_)))
    obtain ⟨rfl, rfl⟩ := hpo
    refine And.intro (fun c => absurd c (by decide)) (fun _ => ?_)
    refine Exists.intro _ (And.intro c_refuse (And.intro (And.intro (Nat.zero_le _) (Nat.zero_le _)) (fun q h' hpo => ?_)))
    obtain ⟨rfl, rfl⟩ := hpo
    refine And.intro ?_ ⟨trivial, Nat.le_refl _, Nat.le_refl _⟩
    exact x_QT_0 hT
theorem m_copySheets {x y : Int32} (hM : v_M (f 501) 0 v) (hB : v_B v) (hT : x_TM f g T) : x_Ct 310 (d + 2) [.ref 500, .int x, .int y] (f, g, x_HR r t, dm, n) (x_QN f g (x_HR r t) dm n (st_copy v T x y)) := by
  have bK := v_B_K hB
  have bG := v_B_G hB
  have bP := v_B_P hB
  have o0 : v_ok v 0 0 0 := ⟨rfl, rfl⟩
  have h0 : f 501 0 = nI (v 0 0 0) := v_M_at hM o0
  have b0 : v 0 0 0 ≤ 4 := (hB.1 0 0 0 o0).2
  have o2 : v_ok v 2 0 0 := ⟨rfl, rfl⟩
  have h2 : f 501 2 = nI (v 2 0 0) := v_M_at hM o2
  have b2 : v 2 0 0 ≤ 5 := (hB.1 2 0 0 o2).2
  unfold st_copy
  refine x_Ct_w (by decide) (Nat.le_of_ble_eq_true rfl) ok310 [60] 10 ?_
  refine Exists.intro _ (And.intro (m_isPerson h2 (by omega)) (And.intro (And.intro (Nat.zero_le _) (Nat.zero_le _)) (fun q h' hpo => ?_)))
  obtain ⟨rfl, rfl⟩ := hpo
  cases hx : x_ixb x (v 2 0 0) with
  | false =>
    rw [if_neg (by decide)]
    refine And.intro (fun _ => ?_) (fun c => absurd rfl c)
    refine Exists.intro _ (And.intro m_refuse (And.intro (And.intro (Nat.zero_le _) (Nat.zero_le _)) (fun q h' hpo => ?_)))
    obtain ⟨rfl, rfl⟩ := hpo
    refine And.intro ?_ ⟨trivial, Nat.le_refl _, Nat.le_refl _⟩
    exact x_QN_0 hT
  | true =>
    rw [if_pos rfl]
    refine And.intro (fun c => absurd c (by decide)) (fun _ => ?_)
    refine Exists.intro _ (And.intro m_isTray (And.intro (And.intro (Nat.zero_le _) (Nat.zero_le _)) (fun q h' hpo => ?_)))
    obtain ⟨rfl, rfl⟩ := hpo
    cases hy : x_wi y 0 3 with
    | false =>
      rw [show y_wk T y (v 0 0 0) = 1 from if_neg (x_wi_n3 hy), if_neg (show ¬ (1 : Int32) = 0 by decide)]
      refine And.intro (fun c => absurd rfl c) (fun _ => ?_)
      refine Exists.intro _ (And.intro m_refuse (And.intro (And.intro (Nat.zero_le _) (Nat.zero_le _)) (fun q h' hpo => ?_)))
      obtain ⟨rfl, rfl⟩ := hpo
      refine And.intro ?_ ⟨trivial, Nat.le_refl _, Nat.le_refl _⟩
      exact x_QN_0 hT
    | true =>
      refine And.intro (fun _ => ?_) (fun c => absurd c (by decide))
      obtain ⟨p, hp, rfl⟩ := x_ixb_t hx (by omega)
      obtain ⟨i, hi1, hi, rfl⟩ := x_wi_t (lo := 0) (hi := 3) hy (by decide) (by decide)
      have h1 := hT i (by omega)
      rw [show x_c (nI i) = i from nI_clamp (by omega), show x_c (nI p) = p from nI_clamp (by omega)]
      refine And.intro (x_ix_nI (by omega) (by omega)) ?_
      rw [nI_clamp (by omega)]
      cases ho : T.1 i with
      | none =>
        rw [ho] at h1
        have h1 : f 504 i = -1 := h1
        refine And.intro (fun c => absurd h1 c) (fun _ => ?_)
        rw [show y_wk T (nI i) (v 0 0 0) = 2 by rw [y_wk_i (by omega), ho], if_neg (show ¬ (2 : Int32) = 0 by decide)]
        refine Exists.intro _ (And.intro m_refuse (And.intro (And.intro (Nat.zero_le _) (Nat.zero_le _)) (fun q h' hpo => ?_)))
        obtain ⟨rfl, rfl⟩ := hpo
        refine And.intro ?_ ⟨trivial, Nat.le_refl _, Nat.le_refl _⟩
        exact x_QN_0 hT
      | some c =>
        rw [ho] at h1
        obtain ⟨a1, a2, a3, a4, a5⟩ := h1
        refine And.intro (fun _ => ?_) (fun c => absurd (a1.symm.trans c) (x_nIm (by omega)))
        have hwk : y_wk T (nI i) (v 0 0 0) = if c.2 < v 0 0 0 then 3 else 0 := by rw [y_wk_i (by omega), ho]
        refine And.intro (x_ix_nI (by omega) (by omega)) ?_
        rw [nI_clamp (by omega)]
        refine And.intro (x_ix_nI (j := 0) (by decide) (by decide)) ?_
        refine And.intro (fun c1 => ?_) (fun c1 => ?_)
        · have c1 : f 501 0 ≤ f 504 i := c1
          rw [h0, a1, nI_leI (by omega) (by omega)] at c1
          rw [if_neg (show ¬ c.2 < v 0 0 0 by omega)] at hwk
          rw [hwk, if_pos rfl, show y_so T i = c.1 by unfold y_so; rw [ho]]
          have loop : ∀ m k G, k + m = v 0 0 0 → (∀ q, q ≠ 505 → G q = g q) → (∀ q, G 505 q = if 60 * i ≤ q ∧ q < 60 * i + k then y_cut (nI c.1) (lN (v 13 p (q - 60 * i))) else g 505 q) → x_J 310 (d + 2) (x_QN f g (x_HR r t) dm n (.int (nI (v 0 0 0)), 0, u_set T i (some c) (u_cp (T.2 i) (nI c.1) (v 13 p) (v 0 0 0)))) 60 [some (.ref 500), some (.int (nI p)), some (.int (nI i)), some (.int (nI k))] [] (f, G, x_HR r t, dm, n) 0 0 := by
            intro m
            induction m with
            | zero =>
              intro k G hk q1 q2
              obtain rfl : k = v 0 0 0 := by omega
              refine x_wp_ok ok310 [60] 6 ?_
              refine And.intro (x_ix_nI (j := 0) (by decide) (by decide)) ?_
              refine And.intro (fun cc => ?_) (fun cc => ?_)
              · refine And.intro (x_ix_nI (j := 0) (by decide) (by decide)) ?_
                refine Exists.intro _ (And.intro m_gives (And.intro (And.intro (Nat.zero_le _) (Nat.zero_le _)) (fun q h' hpo => ?_)))
                obtain ⟨rfl, rfl⟩ := hpo
                refine And.intro ?_ ⟨trivial, Nat.le_refl _, Nat.le_refl _⟩
                rw [← h0]
                refine x_QN_S (x_TM_set (F := f) (G := G) (i := i) (c := some c) (u := u_cp (T.2 i) (nI c.1) (v 13 p) (v 0 0 0)) hT (fun _ _ => ⟨rfl, rfl⟩) (fun j q hj hq => by rw [q2, if_neg (by omega)]) ⟨a1, a2, a3, a4, fun j hj => ?_⟩) (fun _ _ _ => rfl) q1
                show G 505 (60 * i + j) = _
                rw [u_cp_at, q2]
                by_cases hjK : j < v 0 0 0
                · rw [if_pos hjK, if_pos (by omega), Nat.add_sub_cancel_left]
                · rw [if_neg hjK, if_neg (by omega)]
                  exact a5 j hj
              · have cc : ¬ f 501 0 ≤ nI (v 0 0 0) := cc
                rw [h0, nI_leI (by omega) (by omega)] at cc
                omega
            | succ m ih =>
              intro k G hk q1 q2
              have o13 : v_ok v 13 p k := show p < v 2 0 0 ∧ k < v 0 0 0 from ⟨by omega, by omega⟩
              have h13 : f 501 (27 + 14 * p + k) = nI (v 13 p k) := v_M_at hM o13
              have b13 : v 13 p k ≤ 9999 := (hB.1 13 p k o13).2
              have ei : (Int8.ofInt 60).toInt32 * nI i + nI k = nI (60 * i + k) := show nI 60 * nI i + nI k = _ by rw [pk_mul, nI_add]
              refine x_wp_ok ok310 [60] 6 ?_
              refine And.intro (x_ix_nI (j := 0) (by decide) (by decide)) ?_
              refine And.intro (fun cc => ?_) (fun cc => ?_)
              · have cc : f 501 0 ≤ nI k := cc
                rw [h0, nI_leI (by omega) (by omega)] at cc
                omega
              · refine Exists.intro _ (And.intro m_wholeAt (And.intro (And.intro (Nat.zero_le _) (Nat.zero_le _)) (fun q h' hpo => ?_)))
                obtain ⟨rfl, rfl⟩ := hpo
                refine And.intro (x_ix_nI (by omega) (by omega)) ?_
                rw [nI_clamp (by omega)]
                refine And.intro (x_ix_nI (by omega) (by omega)) ?_
                rw [nI_clamp (by omega)]
                refine Exists.intro _ (And.intro m_cut (And.intro (And.intro (Nat.zero_le _) (Nat.zero_le _)) (fun q h' hpo => ?_)))
                obtain ⟨rfl, rfl⟩ := hpo
                refine And.intro (by show x_ix ((Int8.ofInt 60).toInt32 * nI i + nI k) 240; rw [ei]; exact x_ix_nI (by omega) (by omega)) ?_
                rw [ei, nI_clamp (by omega)]
                have e := ih (k + 1) (x_up G 505 (60 * i + k) (y_cut (f 503 i) (f 501 (27 + 14 * p + k)).toInt64)) (by omega) (fun q hq => by rw [x_up_k hq]; exact q1 q hq) (fun q => by
                  by_cases e : q = 60 * i + k
                  · subst e
                    rw [x_up_s, if_pos (by omega), Nat.add_sub_cancel_left, a2, h13, nI_l (by omega)]
                  · rw [x_up_j e, q2]
                    by_cases hc : 60 * i ≤ q ∧ q < 60 * i + k
                    · rw [if_pos hc, if_pos (by omega)]
                    · rw [if_neg hc, if_neg (by omega)])
                rw [nI_succ k] at e
                exact e
          exact loop (v 0 0 0) 0 g (Nat.zero_add _) (fun _ _ => rfl) (fun q => by rw [if_neg (by omega)])
        · have c1 : ¬ f 501 0 ≤ f 504 i := c1
          rw [h0, a1, nI_leI (by omega) (by omega)] at c1
          rw [if_pos (show c.2 < v 0 0 0 by omega)] at hwk
          rw [hwk, if_neg (show ¬ (3 : Int32) = 0 by decide)]
          refine Exists.intro _ (And.intro m_refuse (And.intro (And.intro (Nat.zero_le _) (Nat.zero_le _)) (fun q h' hpo => ?_)))
          obtain ⟨rfl, rfl⟩ := hpo
          refine And.intro ?_ ⟨trivial, Nat.le_refl _, Nat.le_refl _⟩
          exact x_QN_0 hT
theorem m_count {y : Int32} (hM : v_M (f 501) 0 v) (hB : v_B v) (hT : x_TM f g T) : x_Ct 311 (d + 2) [.ref 500, .int y] (f, g, x_HR r t, dm, n) (x_QN f g (x_HR r t) dm n (st_cnt v T y)) := by
  have bK := v_B_K hB
  have bG := v_B_G hB
  have bP := v_B_P hB
  have o0 : v_ok v 0 0 0 := ⟨rfl, rfl⟩
  have h0 : f 501 0 = nI (v 0 0 0) := v_M_at hM o0
  have b0 : v 0 0 0 ≤ 4 := (hB.1 0 0 0 o0).2
  unfold st_cnt
  refine x_Ct_w (by decide) (Nat.le_of_ble_eq_true rfl) ok311 [54] 10 ?_
  refine Exists.intro _ (And.intro m_isTray (And.intro (And.intro (Nat.zero_le _) (Nat.zero_le _)) (fun q h' hpo => ?_)))
  obtain ⟨rfl, rfl⟩ := hpo
  cases hy : x_wi y 0 3 with
  | false =>
    rw [show y_wk T y (v 0 0 0) = 1 from if_neg (x_wi_n3 hy), if_neg (show ¬ (1 : Int32) = 0 by decide)]
    refine And.intro (fun c => absurd rfl c) (fun _ => ?_)
    refine Exists.intro _ (And.intro m_refuse (And.intro (And.intro (Nat.zero_le _) (Nat.zero_le _)) (fun q h' hpo => ?_)))
    obtain ⟨rfl, rfl⟩ := hpo
    refine And.intro ?_ ⟨trivial, Nat.le_refl _, Nat.le_refl _⟩
    exact x_QN_0 hT
  | true =>
    refine And.intro (fun _ => ?_) (fun c => absurd c (by decide))
    obtain ⟨i, hi1, hi, rfl⟩ := x_wi_t (lo := 0) (hi := 3) hy (by decide) (by decide)
    have h1 := hT i (by omega)
    rw [show x_c (nI i) = i from nI_clamp (by omega)]
    refine And.intro (x_ix_nI (by omega) (by omega)) ?_
    rw [nI_clamp (by omega)]
    cases ho : T.1 i with
    | none =>
      rw [ho] at h1
      have h1 : f 504 i = -1 := h1
      refine And.intro (fun c => absurd h1 c) (fun _ => ?_)
      rw [show y_wk T (nI i) (v 0 0 0) = 2 by rw [y_wk_i (by omega), ho], if_neg (show ¬ (2 : Int32) = 0 by decide)]
      refine Exists.intro _ (And.intro m_refuse (And.intro (And.intro (Nat.zero_le _) (Nat.zero_le _)) (fun q h' hpo => ?_)))
      obtain ⟨rfl, rfl⟩ := hpo
      refine And.intro ?_ ⟨trivial, Nat.le_refl _, Nat.le_refl _⟩
      exact x_QN_0 hT
    | some c =>
      rw [ho] at h1
      obtain ⟨a1, a2, a3, a4, a5⟩ := h1
      refine And.intro (fun _ => ?_) (fun c => absurd (a1.symm.trans c) (x_nIm (by omega)))
      have hwk : y_wk T (nI i) (v 0 0 0) = if c.2 < v 0 0 0 then 3 else 0 := by rw [y_wk_i (by omega), ho]
      refine And.intro (x_ix_nI (by omega) (by omega)) ?_
      rw [nI_clamp (by omega)]
      refine And.intro (x_ix_nI (j := 0) (by decide) (by decide)) ?_
      refine And.intro (fun c1 => ?_) (fun c1 => ?_)
      · have c1 : f 501 0 ≤ f 504 i := c1
        rw [h0, a1, nI_leI (by omega) (by omega)] at c1
        rw [if_neg (show ¬ c.2 < v 0 0 0 by omega)] at hwk
        rw [hwk, if_pos rfl]
        have loop : ∀ m k s l4, k + m = v 0 0 0 → y_ctf (T.2 i) (v_w v) k = some s → x_J 311 (d + 2) (x_QN f g (x_HR r t) dm n (match y_ctf (T.2 i) (v_w v) (v 0 0 0) with | none => (.int (-1), 5, T) | some s => (.int s, 0, T))) 54 [some (.ref 500), some (.int (nI i)), some (.int s), some (.int (nI k)), l4, none] [] (f, g, x_HR r t, dm, n) 0 0 := by
          intro m
          induction m with
          | zero =>
            intro k s l4 hk hs
            obtain rfl : k = v 0 0 0 := by omega
            rw [hs]
            refine x_wp_ok ok311 [54] 6 ?_
            refine And.intro (x_ix_nI (j := 0) (by decide) (by decide)) ?_
            refine And.intro (fun cc => ?_) (fun cc => ?_)
            · refine Exists.intro _ (And.intro m_gives (And.intro (And.intro (Nat.zero_le _) (Nat.zero_le _)) (fun q h' hpo => ?_)))
              obtain ⟨rfl, rfl⟩ := hpo
              refine And.intro ?_ ⟨trivial, Nat.le_refl _, Nat.le_refl _⟩
              exact x_QN_0 hT
            · have cc : ¬ f 501 0 ≤ nI (v 0 0 0) := cc
              rw [h0, nI_leI (by omega) (by omega)] at cc
              omega
          | succ m ih =>
            intro k s l4 hk hs
            have o9w : v_ok v 9 k 0 := show k < v 0 0 0 ∧ 0 = 0 from ⟨by omega, rfl⟩
            have h9w : f 501 (12 + k) = nI (v 9 k 0) := v_M_at hM o9w
            have b9w : v 9 k 0 ≤ 500 := (hB.1 9 k 0 o9w).2
            have l9w : 1 ≤ v 9 k 0 := (hB.1 9 k 0 o9w).1
            have eu : g 505 (60 * i + k) = T.2 i k := a5 k (by omega)
            have hstep := y_ctf_s hs
            have ei : (Int8.ofInt 60).toInt32 * nI i + nI k = nI (60 * i + k) := show nI 60 * nI i + nI k = _ by rw [pk_mul, nI_add]
            refine x_wp_ok ok311 [54] 6 ?_
            refine And.intro (x_ix_nI (j := 0) (by decide) (by decide)) ?_
            refine And.intro (fun cc => ?_) (fun cc => ?_)
            · have cc : f 501 0 ≤ nI k := cc
              rw [h0, nI_leI (by omega) (by omega)] at cc
              omega
            · refine And.intro (by show x_ix ((Int8.ofInt 60).toInt32 * nI i + nI k) 240; rw [ei]; exact x_ix_nI (by omega) (by omega)) ?_
              rw [ei, nI_clamp (by omega)]
              refine Exists.intro _ (And.intro (m_isFrom (x := g 505 (60 * i + k)) (lo := 0) (hi := 9999)) (And.intro (And.intro (Nat.zero_le _) (Nat.zero_le _)) (fun q h' hpo => ?_)))
              obtain ⟨rfl, rfl⟩ := hpo
              rw [eu]
              cases hb : x_wl (T.2 i k) 0 9999 with
              | false =>
                rw [hb, if_neg (by decide)] at hstep
                have := y_ctf_n hstep m
                rw [show k + 1 + m = v 0 0 0 by omega] at this
                rw [this]
                refine And.intro (fun c => absurd rfl c) (fun _ => ?_)
                refine Exists.intro _ (And.intro m_refuse (And.intro (And.intro (Nat.zero_le _) (Nat.zero_le _)) (fun q h' hpo => ?_)))
                obtain ⟨rfl, rfl⟩ := hpo
                refine And.intro ?_ ⟨trivial, Nat.le_refl _, Nat.le_refl _⟩
                exact x_QN_0 hT
              | true =>
                rw [hb, if_pos rfl] at hstep
                refine And.intro (fun _ => ?_) (fun c => absurd c (by decide))
                refine Exists.intro _ (And.intro (m_worthV (w := v 9 k 0) (by omega) h9w) (And.intro (And.intro (Nat.zero_le _) (Nat.zero_le _)) (fun q h' hpo => ?_)))
                obtain ⟨rfl, rfl⟩ := hpo
                have e := ih (k + 1) _ (some (.long (T.2 i k))) (by omega) hstep
                rw [show v_w v k = v 9 k 0 from rfl, nI_succ k] at e
                have e9 : x_l (f, g, x_HR r t, dm, n) 505 (60 * i + k) = T.2 i k := eu
                first | exact e | (rw [← eu] at e; exact e)
        exact loop (v 0 0 0) 0 0 none (Nat.zero_add _) rfl
      · have c1 : ¬ f 501 0 ≤ f 504 i := c1
        rw [h0, a1, nI_leI (by omega) (by omega)] at c1
        rw [if_pos (show c.2 < v 0 0 0 by omega)] at hwk
        rw [hwk, if_neg (show ¬ (3 : Int32) = 0 by decide)]
        refine Exists.intro _ (And.intro m_refuse (And.intro (And.intro (Nat.zero_le _) (Nat.zero_le _)) (fun q h' hpo => ?_)))
        obtain ⟨rfl, rfl⟩ := hpo
        refine And.intro ?_ ⟨trivial, Nat.le_refl _, Nat.le_refl _⟩
        exact x_QN_0 hT
end C55
