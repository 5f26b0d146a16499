theorem y_cs_le {need calm : Nat} (hn : need ≤ 999) (hc : 10 ≤ calm) : ∀ m o c, c < 5 ^ m → o + 999 * m ≤ 210000000 → y_cs need calm m o c ≤ m * 210002000
  | 0, _, _, _, _ => Nat.zero_le _
  | m + 1, o, c, hcm, ho => by
    have hp : 0 < 5 ^ m := Nat.pow_pos (by decide)
    have hq : c / 5 ^ m < 5 := (Nat.div_lt_iff_lt_mul hp).mpr (by rw [Nat.mul_comm, ← Nat.pow_succ]; exact hcm)
    have h1 := y_hd_le (o := o) hn hc (show c / 5 ^ m ≤ 4 by omega)
    have h2 := y_pt_le (need := need) (show c / 5 ^ m ≤ 4 by omega)
    have h3 := y_cs_le hn hc m (o + y_pt need (c / 5 ^ m)) (c % 5 ^ m) (Nat.mod_lt _ hp) (by omega)
    show y_hd need calm o (c / 5 ^ m) + y_cs need calm m (o + y_pt need (c / 5 ^ m)) (c % 5 ^ m) ≤ _
    omega
section C47
variable {f : Nat → Nat → Int32} {g : Nat → Nat → Int64} {r t : Nat} {ρ : Nat → Nat → Option Nat} {dm : List Nat} {n d N : Nat} {v : xV} {h : xH}
theorem x_PM_27 {F : Nat → Nat → Int32} {w : Value} {s : Int32} (hM : v_M (f 501) 0 v) (h1 : ∀ k, k ≠ 500 → F k = f k) (h2 : ∀ j, j ≠ 27 → j ≠ 31 → F 500 j = f 500 j) : x_PM f g ρ dm n (w, s, v) (some w) (x_up F 500 2 s, g, ρ, dm, n) := by
  refine ⟨_, _, rfl, rfl, ?_, fun j a b => ?_, ?_, x_up_s _ _ _ _, fun j hj hj2 hj3 => ?_, fun k hk => ?_, fun _ _ => rfl⟩
  · rw [x_up_k (by decide), h1 501 (by decide)]; exact hM
  · rw [x_up_k (by decide), h1 501 (by decide)]
  · rw [x_up_k (by decide), h1 501 (by decide)]
  · rw [x_up_j hj, h2 j hj2 hj3]
  · have := x_mk_ne hk
    rw [x_up_k (by omega), h1 k (by omega)]
theorem m_partOf {a q : Nat} (ha : a ≤ 999) (hq : q ≤ 4) : x_V 297 d [.int (nI a), .int (nI q)] h (.int (nI (y_pt a q))) h := by
  have hnq : a * q ≤ 999 * 4 := Nat.mul_le_mul ha hq
  refine x_Ct_w (by decide) (Nat.le_of_ble_eq_true rfl) ok297 [] 2 ?_
  refine And.intro (by decide) ?_
  exact And.intro ⟨(by show some (Value.int (nI a * nI q / nI 4)) = _; rw [pk_mul, pk_div (by omega) (by decide) (by decide)]; rfl), rfl⟩ ⟨trivial, Nat.le_refl _, Nat.le_refl _⟩
def x_PQ (f : Nat → Nat → Int32) (g : Nat → Nat → Int64) (ρ : Nat → Nat → Option Nat) (dm : List Nat) (n : Nat) (a b : Nat) : Option Value → xH → Prop := fun q h' => q = some (.int (nI a)) ∧ ∃ F, h' = (F, g, ρ, dm, n) ∧ (∀ k, k ≠ 500 → F k = f k) ∧ (∀ j, j ≠ 27 → F 500 j = f 500 j) ∧ F 500 27 = nI b
theorem m_planning {m need : Nat} (hM : v_M (f 501) 0 v) (hB : v_B v) (hm : m + 1 ≤ 5) (hn : need ≤ 999) : x_Ct 298 (d + 3) [.ref 500, .int (nI (m + 1)), .int (nI need)] (f, g, x_HR r t, dm, n) (x_PQ f g (x_HR r t) dm n (y_un need (v 3 0 0) (m + 1) (v_out v)) (y_pt need (y_am (y_up need (v 3 0 0) m (v_out v)) 4))) := by
  have o3 : v_ok v 3 0 0 := ⟨rfl, rfl⟩
  have h3 : f 501 3 = nI (v 3 0 0) := v_M_at hM o3
  have b3 : v 3 0 0 ≤ 9999 := (hB.1 3 0 0 o3).2
  have l3 : 10 ≤ v 3 0 0 := (hB.1 3 0 0 o3).1
  have bo := v_out_le hB
  obtain ⟨U, hU⟩ : ∃ U, U = y_cs need (v 3 0 0) (m + 1) (v_out v) := ⟨_, rfl⟩
  have hp : 0 < 5 ^ m := Nat.pow_pos (by decide)
  have hpA : 5 ^ (m + 1) = 5 ^ m * 5 := Nat.pow_succ 5 m
  have hpl : 5 ^ m ≤ 5 ^ 4 := Nat.pow_le_pow_right (by decide) (by omega)
  have hpl : 5 ^ m ≤ 625 := hpl
  have e1 : y_un need (v 3 0 0) (m + 1) (v_out v) = y_mn U (5 ^ (m + 1) - 1) := by rw [hU]; exact (y_un_cs (m + 1) _).symm
  have e2 : y_am (y_up need (v 3 0 0) m (v_out v)) 4 = y_am U (5 ^ (m + 1) - 1) / 5 ^ m := by rw [hU]; exact y_am_cs.symm
  rw [e1, e2]
  have hUle : ∀ c, c < 5 ^ (m + 1) → U c ≤ 5 * 210002000 := fun c hc => by
    have h1 := y_cs_le hn l3 (m + 1) (v_out v) c hc (by omega)
    have h2 : (m + 1) * 210002000 ≤ 5 * 210002000 := Nat.mul_le_mul_right _ hm
    rw [hU]
    exact Nat.le_trans h1 h2
  have codes : ∀ p c X F l6 l7 l8 l9 l10, c + p = 5 ^ (m + 1) → (∀ k, k ≠ 500 → F k = f k) → (∀ j, j ≠ 27 → F 500 j = f 500 j) → (c = 0 ∨ (X = nI (y_mn U (c - 1)) ∧ F 500 27 = nI (y_pt need (y_am U (c - 1) / 5 ^ m)))) → x_J 298 (d + 3) (x_PQ f g (x_HR r t) dm n (y_mn U (5 ^ (m + 1) - 1)) (y_pt need (y_am U (5 ^ (m + 1) - 1) / 5 ^ m))) 29 [some (.ref 500), some (.int (nI (m + 1))), some (.int (nI need)), some (.int (nI (5 ^ (m + 1)))), some (.int X), some (.int (nI c)), l6, l7, l8, l9, l10] [] (F, g, x_HR r t, dm, n) 0 0 := by
    intro p
    induction p with
    | zero =>
      intro c X F l6 l7 l8 l9 l10 hc q1 q2 q3
      obtain rfl : c = 5 ^ (m + 1) := by omega
      refine x_wp_ok ok298 [5, 29, 50] 6 ?_
      refine And.intro (fun cc => ?_) (fun cc => ?_)
      · obtain ⟨rfl, q4⟩ := q3.resolve_left (by omega)
        exact And.intro ⟨rfl, F, rfl, q1, q2, q4⟩ ⟨trivial, Nat.le_refl _, Nat.le_refl _⟩
      · have cc : ¬ nI (5 ^ (m + 1)) ≤ nI (5 ^ (m + 1)) := cc
        rw [nI_leI (by omega) (by omega)] at cc
        omega
    | succ p ih =>
      intro c X F l6 l7 l8 l9 l10 hc q1 q2 q3
      have hFM : v_M (F 501) 0 v := by rw [q1 501 (by decide)]; exact hM
      have hUc := hUle c (by omega)
      have keep : ∀ l6 l7 l9 l10, c ≠ 0 → y_mn U (c - 1) ≤ U c → x_J 298 (d + 3) (x_PQ f g (x_HR r t) dm n (y_mn U (5 ^ (m + 1) - 1)) (y_pt need (y_am U (5 ^ (m + 1) - 1) / 5 ^ m))) 142 [some (.ref 500), some (.int (nI (m + 1))), some (.int (nI need)), some (.int (nI (5 ^ (m + 1)))), some (.int X), some (.int (nI c)), l6, l7, some (.int (nI (U c))), l9, l10] [] (F, g, x_HR r t, dm, n) 0 0 := by
        intro l6 l7 l9 l10 hc0 hle
        obtain ⟨c', rfl⟩ : ∃ c', c = c' + 1 := ⟨c - 1, by omega⟩
        rw [Nat.add_sub_cancel] at hle
        obtain ⟨x1, x2⟩ := q3.resolve_left hc0
        rw [Nat.add_sub_cancel] at x1 x2
        have e := ih (c' + 1 + 1) X F l6 l7 (some (.int (nI (U (c' + 1))))) l9 l10 (by omega) q1 q2 (Or.inr ⟨by rw [Nat.add_sub_cancel, x1, show y_mn U (c' + 1) = min (y_mn U c') (U (c' + 1)) from rfl, Nat.min_eq_left hle], by rw [Nat.add_sub_cancel, x2, show y_am U (c' + 1) = if U (c' + 1) < y_mn U c' then c' + 1 else y_am U c' from rfl, if_neg (by omega)]⟩)
        rw [nI_succ (c' + 1)] at e
        refine x_wp_ok ok298 [5, 29, 50] 6 ?_
        exact e
      have take : ∀ l6 l7 l9 l10, (c = 0 ∨ U c < y_mn U (c - 1)) → x_J 298 (d + 3) (x_PQ f g (x_HR r t) dm n (y_mn U (5 ^ (m + 1) - 1)) (y_pt need (y_am U (5 ^ (m + 1) - 1) / 5 ^ m))) 124 [some (.ref 500), some (.int (nI (m + 1))), some (.int (nI need)), some (.int (nI (5 ^ (m + 1)))), some (.int X), some (.int (nI c)), l6, l7, some (.int (nI (U c))), l9, l10] [] (F, g, x_HR r t, dm, n) 0 0 := by
        intro l6 l7 l9 l10 hlt
        have hdv : nI c / (nI (5 ^ (m + 1)) / nI 5) = nI (c / 5 ^ m) := by
          rw [pk_div (by omega) (by decide) (by decide), hpA, Nat.mul_div_cancel _ (by decide), pk_div (by omega) (by omega) (by omega)]
        have hq4 : c / 5 ^ m < 5 := (Nat.div_lt_iff_lt_mul hp).mpr (by rw [Nat.mul_comm]; omega)
        have po := m_partOf (d := d + 2) (h := (F, g, x_HR r t, dm, n)) hn (show c / 5 ^ m ≤ 4 by omega)
        rw [← hdv] at po
        refine x_wp_ok ok298 [5, 29, 50] 6 ?_
        refine And.intro (by decide) ?_
        refine And.intro (by show ¬ nI (5 ^ (m + 1)) / nI 5 = 0; rw [pk_div (by omega) (by decide) (by decide), hpA, Nat.mul_div_cancel _ (by decide)]; exact x_ne0 (by omega) (by omega)) ?_
        refine Exists.intro _ (And.intro po (And.intro (And.intro (Nat.zero_le _) (Nat.zero_le _)) (fun q h' hpo => ?_)))
        obtain ⟨rfl, rfl⟩ := hpo
        have e := ih (c + 1) (nI (U c)) (x_up F 500 27 (nI (y_pt need (c / 5 ^ m)))) l6 l7 (some (.int (nI (U c)))) l9 l10 (by omega) (fun k hk => by rw [x_up_k hk]; exact q1 k hk) (fun j hj => by rw [x_up_j hj]; exact q2 j hj) (Or.inr (by
          rw [Nat.add_sub_cancel]
          have : y_mn U c = U c ∧ y_am U c = c := by
            cases c with
            | zero => exact ⟨rfl, rfl⟩
            | succ c' =>
              have hlt := hlt.resolve_left (by omega)
              rw [Nat.add_sub_cancel] at hlt
              exact ⟨Nat.min_eq_right (by omega), if_pos hlt⟩
          rw [this.1, this.2]
          exact ⟨rfl, x_up_s _ _ _ _⟩))
        rw [nI_succ c] at e
        exact e
      have steps : ∀ s k o un l10, k + s = m + 1 → un + y_cs need (v 3 0 0) s o (c % 5 ^ s) = U c → o + 999 * s ≤ 210000000 → x_J 298 (d + 3) (x_PQ f g (x_HR r t) dm n (y_mn U (5 ^ (m + 1) - 1)) (y_pt need (y_am U (5 ^ (m + 1) - 1) / 5 ^ m))) 50 [some (.ref 500), some (.int (nI (m + 1))), some (.int (nI need)), some (.int (nI (5 ^ (m + 1)))), some (.int X), some (.int (nI c)), some (.int (nI (5 ^ s))), some (.int (nI o)), some (.int (nI un)), some (.int (nI k)), l10] [] (F, g, x_HR r t, dm, n) 0 0 := by
        intro s
        induction s with
        | zero =>
          intro k o un l10 hk hun ho
          have hun : un = U c := hun
          subst hun
          obtain rfl : k = m + 1 := by omega
          refine x_wp_ok ok298 [5, 29, 50, 124, 142] 6 ?_
          refine And.intro (fun cc => ?_) (fun cc => ?_)
          · refine And.intro (fun c2 => ?_) (fun c2 => ?_)
            · have c2 : nI c ≤ nI 0 := c2
              rw [nI_leI (by omega) (by decide)] at c2
              exact take _ _ _ _ (Or.inl (by omega))
            · have c2 : ¬ nI c ≤ nI 0 := c2
              rw [nI_leI (by omega) (by decide)] at c2
              obtain ⟨x1, x2⟩ := q3.resolve_left (by omega)
              have b1 := y_mn_at U (c - 1) 0 (Nat.zero_le _)
              have b2 := hUle 0 (by omega)
              refine And.intro (fun c3 => ?_) (fun c3 => ?_)
              · have c3 : nI (U c) < X := c3
                rw [x1, nI_ltI (by omega) (by omega)] at c3
                exact take _ _ _ _ (Or.inr c3)
              · have c3 : ¬ nI (U c) < X := c3
                rw [x1, nI_ltI (by omega) (by omega)] at c3
                exact keep _ _ _ _ (by omega) (by omega)
          · have cc : ¬ nI (m + 1) ≤ nI (m + 1) := cc
            rw [nI_leI (by omega) (by omega)] at cc
            omega
        | succ s ih2 =>
          intro k o un l10 hk hun ho
          have hs : 0 < 5 ^ s := Nat.pow_pos (by decide)
          have hsl : 5 ^ s ≤ 5 ^ 4 := Nat.pow_le_pow_right (by decide) (by omega)
          have hsl : 5 ^ s ≤ 625 := hsl
          have hsA : 5 ^ (s + 1) = 5 ^ s * 5 := Nat.pow_succ 5 s
          obtain ⟨q, hq⟩ : ∃ q, q = c / 5 ^ s % 5 := ⟨_, rfl⟩
          have hq4 : q < 5 := by rw [hq]; exact Nat.mod_lt _ (by decide)
          have ed : c % 5 ^ (s + 1) / 5 ^ s = q := by rw [hsA, Nat.mod_mul_right_div_self, hq]
          have em : c % 5 ^ (s + 1) % 5 ^ s = c % 5 ^ s := by rw [hsA, Nat.mod_mul_right_mod]
          have hun : un + (y_hd need (v 3 0 0) o (c % 5 ^ (s + 1) / 5 ^ s) + y_cs need (v 3 0 0) s (o + y_pt need (c % 5 ^ (s + 1) / 5 ^ s)) (c % 5 ^ (s + 1) % 5 ^ s)) = U c := hun
          rw [ed, em] at hun
          have hpt := y_pt_le (need := need) (show q ≤ 4 by omega)
          have hdl : nI (5 ^ (s + 1)) / nI 5 = nI (5 ^ s) := by rw [pk_div (by omega) (by decide) (by decide), hsA, Nat.mul_div_cancel _ (by decide)]
          have hcd : c / 5 ^ s ≤ c := Nat.div_le_self _ _
          have hdq : nI c / nI (5 ^ s) - nI c / nI (5 ^ s) / nI 5 * nI 5 = nI q := by rw [pk_div (by omega) hs (by omega), pk_rem (by omega) (by decide) (by decide), hq]
          refine x_wp_ok ok298 [5, 29, 50] 6 ?_
          refine And.intro (fun cc => ?_) (fun cc => ?_)
          · have cc : nI (m + 1) ≤ nI k := cc
            rw [nI_leI (by omega) (by omega)] at cc
            omega
          · refine And.intro (by decide) ?_
            refine And.intro (by show ¬ nI (5 ^ (s + 1)) / nI 5 = 0; rw [hdl]; exact x_ne0 (by omega) (by omega)) ?_
            refine And.intro (by decide) ?_
            have po := m_partOf (d := d + 2) (h := (F, g, x_HR r t, dm, n)) hn (show q ≤ 4 by omega)
            rw [← hdq, ← hdl] at po
            refine Exists.intro _ (And.intro po (And.intro (And.intro (Nat.zero_le _) (Nat.zero_le _)) (fun q h' hpo => ?_)))
            obtain ⟨rfl, rfl⟩ := hpo
            have lb := m_levelBy (d := d + 2) (g := g) (r := r) (t := t) (dm := dm) (n := n) (o := o + y_pt need q) hFM hB (by omega)
            rw [← nI_add] at lb
            refine Exists.intro _ (And.intro lb (And.intro (And.intro (Nat.zero_le _) (Nat.zero_le _)) (fun q h' hpo => ?_)))
            obtain ⟨rfl, rfl⟩ := hpo
            have eun : nI un + (nI need - nI (y_pt need q) + nI 10 * (nI (1 + (o + y_pt need q) / v 3 0 0) - 1)) = nI (un + y_hd need (v 3 0 0) o q) := by
              rw [pk_sub hpt, show 1 + (o + y_pt need q) / v 3 0 0 = (o + y_pt need q) / v 3 0 0 + 1 by omega, nI_pred, pk_mul, nI_add, nI_add]
              rfl
            have e := ih2 (k + 1) (o + y_pt need q) (un + y_hd need (v 3 0 0) o q) (some (.int (nI (y_pt need q)))) (by omega) (by omega) (by omega)
            rw [← eun, ← nI_add o, ← hdl, nI_succ k] at e
            exact e
      refine x_wp_ok ok298 [5, 29, 50] 6 ?_
      refine And.intro (fun cc => ?_) (fun cc => ?_)
      · have cc : nI (5 ^ (m + 1)) ≤ nI c := cc
        rw [nI_leI (by omega) (by omega)] at cc
        omega
      · refine Exists.intro _ (And.intro (m_out hFM hB) (And.intro (And.intro (Nat.zero_le _) (Nat.zero_le _)) (fun q h' hpo => ?_)))
        obtain ⟨rfl, rfl⟩ := hpo
        exact steps (m + 1) 0 (v_out v) 0 l10 (Nat.zero_add _) (by rw [Nat.zero_add, Nat.mod_eq_of_lt (by omega), hU]) (by omega)
  have pows : ∀ p k, k + p = m + 1 → x_J 298 (d + 3) (x_PQ f g (x_HR r t) dm n (y_mn U (5 ^ (m + 1) - 1)) (y_pt need (y_am U (5 ^ (m + 1) - 1) / 5 ^ m))) 5 [some (.ref 500), some (.int (nI (m + 1))), some (.int (nI need)), some (.int (nI (5 ^ k))), some (.int (nI k)), none, none, none, none, none, none] [] (f, g, x_HR r t, dm, n) 0 0 := by
    intro p
    induction p with
    | zero =>
      intro k hk
      obtain rfl : k = m + 1 := by omega
      refine x_wp_ok ok298 [5, 29, 50] 6 ?_
      refine And.intro (fun cc => ?_) (fun cc => ?_)
      · exact codes (5 ^ (m + 1)) 0 (nI 1000000) f none none none none none (Nat.zero_add _) (fun _ _ => rfl) (fun _ _ => rfl) (Or.inl rfl)
      · have cc : ¬ nI (m + 1) ≤ nI (m + 1) := cc
        rw [nI_leI (by omega) (by omega)] at cc
        omega
    | succ p ih =>
      intro k hk
      refine x_wp_ok ok298 [5, 29, 50] 6 ?_
      refine And.intro (fun cc => ?_) (fun cc => ?_)
      · have cc : nI (m + 1) ≤ nI k := cc
        rw [nI_leI (by omega) (by omega)] at cc
        omega
      · have e := ih (k + 1) (by omega)
        rw [Nat.pow_succ 5 k, ← pk_mul, nI_succ k] at e
        exact e
  exact x_Ct_w (by decide) (Nat.le_of_ble_eq_true rfl) ok298 [5, 29, 50] 6 (pows (m + 1) 0 (Nat.zero_add _))
theorem m_isPlan {x y : Int32} : x_V 299 (d + 2) [.int x, .int y] h (.int (x_bo (x_wi x 1 5 && x_wi y 0 999))) h := by
  have e1 : x_wl x.toInt64 1 5 = x_wi x 1 5 := x_wl_wi rfl rfl
  refine x_Ct_w (by decide) (Nat.le_of_ble_eq_true rfl) ok299 [] 6 ?_
  refine Exists.intro _ (And.intro (m_isFrom (x := x.toInt64) (lo := 1) (hi := 5)) (And.intro (And.intro (Nat.zero_le _) (Nat.zero_le _)) (fun q h' hpo => ?_)))
  obtain ⟨rfl, rfl⟩ := hpo
  rw [e1]
  cases hx : x_wi x 1 5 with
  | false =>
    refine And.intro (fun _ => ?_) (fun c => absurd rfl c)
    exact And.intro ⟨rfl, rfl⟩ ⟨Or.inl rfl, Nat.le_refl _, Nat.le_refl _⟩
  | true =>
    refine And.intro (fun c => absurd c (by decide)) (fun _ => ?_)
    refine Exists.intro _ (And.intro m_isSum (And.intro (And.intro (Nat.zero_le _) (Nat.zero_le _)) (fun q h' hpo => ?_)))
    obtain ⟨rfl, rfl⟩ := hpo
    cases hy : x_wi y 0 999 with
    | false =>
      refine And.intro (fun _ => ?_) (fun c => absurd rfl c)
      exact And.intro ⟨rfl, rfl⟩ ⟨Or.inl rfl, Nat.le_refl _, Nat.le_refl _⟩
    | true =>
      refine And.intro (fun c => absurd c (by decide)) (fun _ => ?_)
      exact And.intro ⟨rfl, rfl⟩ ⟨Or.inr rfl, Nat.le_refl _, Nat.le_refl _⟩
theorem m_plan {x y : Int32} (hM : v_M (f 501) 0 v) (hB : v_B v) : x_Ct 300 (d + 4) [.ref 500, .int x, .int y] (f, g, x_HR r t, dm, n) (x_PM f g (x_HR r t) dm n (sp_plan v x y)) := by
  unfold sp_plan
  refine x_Ct_w (by decide) (Nat.le_of_ble_eq_true rfl) ok300 [] 6 ?_
  refine Exists.intro _ (And.intro m_isPlan (And.intro (And.intro (Nat.zero_le _) (Nat.zero_le _)) (fun q h' hpo => ?_)))
  obtain ⟨rfl, rfl⟩ := hpo
  cases hxy : (x_wi x 1 5 && x_wi y 0 999) with
  | false =>
    refine And.intro (fun c => absurd rfl c) (fun _ => ?_)
    refine Exists.intro _ (And.intro m_refuse (And.intro (And.intro (Nat.zero_le _) (Nat.zero_le _)) (fun q h' hpo => ?_)))
    obtain ⟨rfl, rfl⟩ := hpo
    refine And.intro ?_ ⟨trivial, Nat.le_refl _, Nat.le_refl _⟩
    exact x_PM_0 hM
  | true =>
    refine And.intro (fun _ => ?_) (fun c => absurd c (by decide))
    rw [Bool.and_eq_true] at hxy
    obtain ⟨m, hm1, hm, rfl⟩ := x_wi_t (lo := 1) (hi := 5) hxy.1 (by decide) (by decide)
    obtain ⟨need, hn1, hn, rfl⟩ := x_wi_t (lo := 0) (hi := 999) hxy.2 (by decide) (by decide)
    rw [x_c, x_c, nI_clamp (by omega), nI_clamp (by omega)]
    obtain ⟨m, rfl⟩ : ∃ m', m = m' + 1 := ⟨m - 1, by omega⟩
    refine Exists.intro _ (And.intro (m_planning hM hB hm hn) (And.intro (And.intro (Nat.zero_le _) (Nat.zero_le _)) (fun q h' hpo => ?_)))
    obtain ⟨rfl, F, rfl, q1, q2, q3⟩ := hpo
    refine Exists.intro _ (And.intro m_gives (And.intro (And.intro (Nat.zero_le _) (Nat.zero_le _)) (fun q h' hpo => ?_)))
    obtain ⟨rfl, rfl⟩ := hpo
    refine And.intro ?_ ⟨trivial, Nat.le_refl _, Nat.le_refl _⟩
    exact x_PM_27 hM q1 (fun j hj _ => q2 j hj)
theorem m_planFirst {x y : Int32} (hM : v_M (f 501) 0 v) (hB : v_B v) : x_Ct 301 (d + 4) [.ref 500, .int x, .int y] (f, g, x_HR r t, dm, n) (x_PM f g (x_HR r t) dm n (sp_planFirst v x y)) := by
  unfold sp_planFirst
  refine x_Ct_w (by decide) (Nat.le_of_ble_eq_true rfl) ok301 [] 6 ?_
  refine Exists.intro _ (And.intro m_isPlan (And.intro (And.intro (Nat.zero_le _) (Nat.zero_le _)) (fun q h' hpo => ?_)))
  obtain ⟨rfl, rfl⟩ := hpo
  cases hxy : (x_wi x 1 5 && x_wi y 0 999) with
  | false =>
    refine And.intro (fun c => absurd rfl c) (fun _ => ?_)
    refine Exists.intro _ (And.intro m_refuse (And.intro (And.intro (Nat.zero_le _) (Nat.zero_le _)) (fun q h' hpo => ?_)))
    obtain ⟨rfl, rfl⟩ := hpo
    refine And.intro ?_ ⟨trivial, Nat.le_refl _, Nat.le_refl _⟩
    exact x_PM_0 hM
  | true =>
    refine And.intro (fun _ => ?_) (fun c => absurd c (by decide))
    rw [Bool.and_eq_true] at hxy
    obtain ⟨m, hm1, hm, rfl⟩ := x_wi_t (lo := 1) (hi := 5) hxy.1 (by decide) (by decide)
    obtain ⟨need, hn1, hn, rfl⟩ := x_wi_t (lo := 0) (hi := 999) hxy.2 (by decide) (by decide)
    rw [x_c, x_c, nI_clamp (by omega), nI_clamp (by omega)]
    obtain ⟨m, rfl⟩ : ∃ m', m = m' + 1 := ⟨m - 1, by omega⟩
    rw [Nat.add_sub_cancel]
    refine Exists.intro _ (And.intro (m_planning hM hB hm hn) (And.intro (And.intro (Nat.zero_le _) (Nat.zero_le _)) (fun q h' hpo => ?_)))
    obtain ⟨rfl, F, rfl, q1, q2, q3⟩ := hpo
    refine Exists.intro _ (And.intro m_gives (And.intro (And.intro (Nat.zero_le _) (Nat.zero_le _)) (fun q h' hpo => ?_)))
    obtain ⟨rfl, rfl⟩ := hpo
    refine And.intro ?_ ⟨trivial, Nat.le_refl _, Nat.le_refl _⟩
    rw [← q3]
    exact x_PM_27 hM q1 (fun j hj _ => q2 j hj)
end C47
