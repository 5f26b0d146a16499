def y_np (x : Int32) : Bool := decide (0 ≤ x.toInt)
/-- STATUS of a pour, and the TRAYS then -/
def y_pp (o1 o2 : Option (Nat × Nat)) (p a m : Int32) : Int32 := match o1, o2 with
  | some c, some e => if c.1 = e.1 then (if p.toInt + m.toInt ≤ c.2 ∧ a.toInt + m.toInt ≤ e.2 then 0 else 3) else 8
  | _, _ => 2
def y_po (T : xT) (x p y a m : Int32) : Int32 := if (x_wi x 0 3 && (x_wi y 0 3 && (y_np p && (y_np a && y_np m)))) = true then y_pp (T.1 (x_c x)) (T.1 (x_c y)) p a m else 1
def st_pour (T : xT) (x p y a m : Int32) : xU := if y_po T x p y a m = 0 then (.int 1, 0, u_set T (x_c y) (T.1 (x_c y)) (va_cpy (T.2 (x_c x)) (T.2 (x_c y)) (x_c p) (x_c a) (x_c m))) else (.int 0, y_po T x p y a m, T)
theorem x_l2 {x : Int32} : x.toInt64.toInt = x.toInt := Int32.toInt_toInt64 x
theorem x_ladd {x y : Int32} : (x.toInt64 + y.toInt64).toInt = x.toInt + y.toInt := by
  have h1 := Int32.toInt_lt x
  have h2 := Int32.toInt_lt y
  have h3 := Int32.le_toInt x
  have h4 := Int32.le_toInt y
  rw [Int64.toInt_add, x_l2, x_l2, Int.bmod_eq_of_le (by omega) (by omega)]
theorem y_np_t {x : Int32} (h : y_np x = true) : ∃ j : Nat, j < 2 ^ 31 ∧ x = nI j := by
  have h : 0 ≤ x.toInt := of_decide_eq_true h
  exact nI_of (by rw [x_lt, x_i0]; omega)
section C53
variable {f : Nat → Nat → Int32} {g : Nat → Nat → Int64} {r t : Nat} {ρ : Nat → Nat → Option Nat} {dm : List Nat} {n d N : Nat} {v : xV} {h : xH} {T : xT}
theorem c_pour_0_0 {p a m : Int32} (hT : x_TC f g T) : x_Ct 103 (d + 2) [.ref 0, .int (nI 0), .int p, .int (nI 0), .int a, .int m] (f, g, x_HR r t, dm, n) (x_QT f g (x_HR r t) dm n (st_pour T (nI 0) p (nI 0) a m)) := by
  have h1 := hT 0 (by decide)
  have h2 := hT 0 (by decide)
  have bad : (y_np p && (y_np a && y_np m)) = false → y_po T (nI 0) p (nI 0) a m = 1 := by
    intro hb
    unfold y_po
    rw [hb]
    exact if_neg (by decide)
  have good : (y_np p && (y_np a && y_np m)) = true → y_po T (nI 0) p (nI 0) a m = y_pp (T.1 0) (T.1 0) p a m := by
    intro hb
    unfold y_po
    rw [hb]
    exact if_pos (by decide)
  unfold st_pour
  refine x_Ct_w (by decide) (Nat.le_of_ble_eq_true rfl) ok103 [] 12 ?_
  refine Exists.intro _ (And.intro c_isTray (And.intro (And.intro (Nat.zero_le _) (Nat.zero_le _)) (fun q h' hpo => ?_)))
  obtain ⟨rfl, rfl⟩ := hpo
  refine And.intro (fun c => absurd c (by decide)) (fun _ => ?_)
  refine Exists.intro _ (And.intro c_isTray (And.intro (And.intro (Nat.zero_le _) (Nat.zero_le _)) (fun q h' hpo => ?_)))
  obtain ⟨rfl, rfl⟩ := hpo
  refine And.intro (fun c => absurd c (by decide)) (fun _ => ?_)
  refine And.intro (fun c1 => ?_) (fun c1 => ?_)
  · have c1 : p < 0 := c1
    rw [x_lt, x_i0] at c1
    rw [bad (by unfold y_np; rw [decide_eq_false (by omega : ¬ 0 ≤ p.toInt), Bool.false_and]), if_neg (by decide)]
    refine Exists.intro _ (And.intro c_refused (And.intro (And.intro (Nat.zero_le _) (Nat.zero_le _)) (fun q h' hpo => ?_)))
    obtain ⟨rfl, rfl⟩ := hpo
    refine And.intro ?_ ⟨Or.inl rfl, Nat.le_refl _, Nat.le_refl _⟩
    exact x_QT_0 hT
  · have c1 : ¬ p < 0 := c1
    rw [x_lt, x_i0] at c1
    refine And.intro (fun c2 => ?_) (fun c2 => ?_)
    · have c2 : a < 0 := c2
      rw [x_lt, x_i0] at c2
      rw [bad (by unfold y_np; rw [decide_eq_false (by omega : ¬ 0 ≤ a.toInt), Bool.false_and, Bool.and_false]), if_neg (by decide)]
      refine Exists.intro _ (And.intro c_refused (And.intro (And.intro (Nat.zero_le _) (Nat.zero_le _)) (fun q h' hpo => ?_)))
      obtain ⟨rfl, rfl⟩ := hpo
      refine And.intro ?_ ⟨Or.inl rfl, Nat.le_refl _, Nat.le_refl _⟩
      exact x_QT_0 hT
    · have c2 : ¬ a < 0 := c2
      rw [x_lt, x_i0] at c2
      refine And.intro (fun c3 => ?_) (fun c3 => ?_)
      · have c3 : 0 ≤ m := c3
        rw [x_le, x_i0] at c3
        obtain ⟨o1, ho⟩ : ∃ o1, T.1 0 = o1 := ⟨_, rfl⟩
        obtain ⟨o2, ho2⟩ : ∃ o2, T.1 0 = o2 := ⟨_, rfl⟩
        have hg := good (by unfold y_np; rw [decide_eq_true (by omega : 0 ≤ p.toInt), decide_eq_true (by omega : 0 ≤ a.toInt), decide_eq_true c3]; rfl)
        rw [show y_po T (nI 0) p (nI 0) a m = y_pp o1 o2 p a m by rw [hg, ← ho, ← ho2]]
        rw [ho] at h1
        rw [ho2] at h2
        refine And.intro (x_ix_nI (by omega) (by omega)) ?_
        rw [nI_clamp (by omega)]
        refine And.intro (x_ix_nI (by omega) (by omega)) ?_
        rw [nI_clamp (by omega)]
        refine Exists.intro _ (And.intro c_isMissing_0 (And.intro (And.intro (Nat.zero_le _) (Nat.zero_le _)) (fun q h' hpo => ?_)))
        obtain ⟨rfl, rfl⟩ := hpo
        cases o1 with
        | none =>
          have h1 : f 2 1 = -1 := h1
          rw [decide_eq_true h1]
          refine And.intro (fun _ => ?_) (fun c => absurd c (by decide))
          rw [show y_pp none o2 p a m = 2 from rfl, if_neg (by decide)]
          refine Exists.intro _ (And.intro c_refused (And.intro (And.intro (Nat.zero_le _) (Nat.zero_le _)) (fun q h' hpo => ?_)))
          obtain ⟨rfl, rfl⟩ := hpo
          refine And.intro ?_ ⟨Or.inl rfl, Nat.le_refl _, Nat.le_refl _⟩
          exact x_QT_0 hT
        | some c =>
          obtain ⟨a1, a2, a3, a4, a5⟩ := h1
          have a1 : f 2 1 = nI c.2 := a1
          have a2 : f 2 2 = nI c.1 := a2
          rw [decide_eq_false (by rw [a1]; exact x_nIm (by omega))]
          refine And.intro (fun c => absurd rfl c) (fun _ => ?_)
          refine Exists.intro _ (And.intro c_isMissing_0 (And.intro (And.intro (Nat.zero_le _) (Nat.zero_le _)) (fun q h' hpo => ?_)))
          obtain ⟨rfl, rfl⟩ := hpo
          cases o2 with
          | none =>
            have h2 : f 2 1 = -1 := h2
            rw [decide_eq_true h2]
            refine And.intro (fun c => absurd c (by decide)) (fun _ => ?_)
            rw [show y_pp (some c) none p a m = 2 from rfl, if_neg (by decide)]
            refine Exists.intro _ (And.intro c_refused (And.intro (And.intro (Nat.zero_le _) (Nat.zero_le _)) (fun q h' hpo => ?_)))
            obtain ⟨rfl, rfl⟩ := hpo
            refine And.intro ?_ ⟨Or.inl rfl, Nat.le_refl _, Nat.le_refl _⟩
            exact x_QT_0 hT
          | some e =>
            obtain ⟨b1, b2, b3, b4, b5⟩ := h2
            have b1 : f 2 1 = nI e.2 := b1
            have b2 : f 2 2 = nI e.1 := b2
            rw [decide_eq_false (by rw [b1]; exact x_nIm (by omega))]
            refine And.intro (fun _ => ?_) (fun c => absurd rfl c)
            have ePP : y_pp (some c) (some e) p a m = if c.1 = e.1 then (if p.toInt + m.toInt ≤ c.2 ∧ a.toInt + m.toInt ≤ e.2 then 0 else 3) else 8 := rfl
            refine And.intro (fun c4 => ?_) (fun c4 => ?_)
            · have c4 : f 2 2 = f 2 2 := c4
              have c4 : nI c.1 = nI e.1 := a2.symm.trans (c4.trans b2)
              rw [nI_eq (by omega) (by omega)] at c4
              rw [if_pos c4] at ePP
              refine And.intro (fun c5 => ?_) (fun c5 => ?_)
              · have c5 : 0 < lg_cmp (p.toInt64 + m.toInt64) (f 2 1).toInt64 := c5
                rw [x_lg_gt, Int64.lt_iff_toInt_lt, x_ladd, x_l2, a1, nI_toInt (by omega)] at c5
                rw [if_neg (by omega)] at ePP
                rw [ePP, if_neg (by decide)]
                refine Exists.intro _ (And.intro c_refused (And.intro (And.intro (Nat.zero_le _) (Nat.zero_le _)) (fun q h' hpo => ?_)))
                obtain ⟨rfl, rfl⟩ := hpo
                refine And.intro ?_ ⟨Or.inl rfl, Nat.le_refl _, Nat.le_refl _⟩
                exact x_QT_0 hT
              · have c5 : ¬ 0 < lg_cmp (p.toInt64 + m.toInt64) (f 2 1).toInt64 := c5
                rw [x_lg_gt, Int64.lt_iff_toInt_lt, x_ladd, x_l2, a1, nI_toInt (by omega)] at c5
                refine And.intro (fun c6 => ?_) (fun c6 => ?_)
                · have c6 : lg_cmp (a.toInt64 + m.toInt64) (f 2 1).toInt64 ≤ 0 := c6
                  rw [← Int32.not_lt, x_lg_gt, Int64.lt_iff_toInt_lt, x_ladd, x_l2, b1, nI_toInt (by omega)] at c6
                  rw [if_pos (by omega)] at ePP
                  rw [ePP, if_pos rfl]
                  refine And.intro (by show 0 ≤ p.toInt ∧ 0 ≤ a.toInt ∧ 0 ≤ m.toInt ∧ p.toInt + m.toInt ≤ 60 ∧ a.toInt + m.toInt ≤ 60; omega) ?_
                  refine Exists.intro _ (And.intro c_agreed (And.intro (And.intro (Nat.zero_le _) (Nat.zero_le _)) (fun q h' hpo => ?_)))
                  obtain ⟨rfl, rfl⟩ := hpo
                  refine And.intro ?_ ⟨Or.inr rfl, Nat.le_refl _, Nat.le_refl _⟩
                  obtain ⟨p, hp, rfl⟩ := nI_of (x := p) (by rw [x_lt, x_i0]; omega)
                  obtain ⟨a, ha, rfl⟩ := nI_of (x := a) (by rw [x_lt, x_i0]; omega)
                  obtain ⟨m, hm, rfl⟩ := nI_of (x := m) (by rw [x_lt, x_i0]; omega)
                  rw [nI_toInt hp, nI_toInt hm] at c5
                  rw [nI_toInt ha, nI_toInt hm] at c6
                  rw [show x_c (nI p) = p from nI_clamp hp, show x_c (nI a) = a from nI_clamp ha, show x_c (nI m) = m from nI_clamp hm, show x_c (nI 0) = 0 from rfl]
                  try rw [show x_c (nI 0) = 0 from rfl]
                  rw [ho2]
                  try rw [nI_clamp hp]
                  try rw [nI_clamp ha]
                  try rw [nI_clamp hm]
                  refine x_QT_S (x_TC_set (F := f) (G := va_up g 3 (va_cpy (g 3) (g 3) p a m)) (i := 0) (c := some e) (u := va_cpy (T.2 0) (T.2 0) p a m) hT (fun _ _ => rfl) (fun k hk => x_un hk) ⟨b1, b2, b3, b4, fun k hk => ?_⟩) (fun _ _ => rfl) (fun k hk => x_un (by omega))
                  show va_up g 3 (va_cpy (g 3) (g 3) p a m) 3 k = va_cpy (T.2 0) (T.2 0) p a m k
                  rw [x_us]
                  unfold va_cpy
                  by_cases hc : a ≤ k ∧ k < a + m
                  · rw [if_pos hc, if_pos hc]
                    exact a5 _ (by omega)
                  · rw [if_neg hc, if_neg hc]
                    exact b5 k hk
                · have c6 : ¬ lg_cmp (a.toInt64 + m.toInt64) (f 2 1).toInt64 ≤ 0 := c6
                  rw [← Int32.not_lt, x_lg_gt, Int64.lt_iff_toInt_lt, x_ladd, x_l2, b1, nI_toInt (by omega)] at c6
                  rw [if_neg (by omega)] at ePP
                  rw [ePP, if_neg (by decide)]
                  refine Exists.intro _ (And.intro c_refused (And.intro (And.intro (Nat.zero_le _) (Nat.zero_le _)) (fun q h' hpo => ?_)))
                  obtain ⟨rfl, rfl⟩ := hpo
                  refine And.intro ?_ ⟨Or.inl rfl, Nat.le_refl _, Nat.le_refl _⟩
                  exact x_QT_0 hT
            · have c4 : ¬ f 2 2 = f 2 2 := c4
              have c4 : ¬ nI c.1 = nI e.1 := fun q => c4 (a2.trans (q.trans b2.symm))
              rw [nI_eq (by omega) (by omega)] at c4
              rw [if_neg c4] at ePP
              rw [ePP, if_neg (by decide)]
              refine Exists.intro _ (And.intro c_refused (And.intro (And.intro (Nat.zero_le _) (Nat.zero_le _)) (fun q h' hpo => ?_)))
              obtain ⟨rfl, rfl⟩ := hpo
              refine And.intro ?_ ⟨Or.inl rfl, Nat.le_refl _, Nat.le_refl _⟩
              exact x_QT_0 hT
      · have c3 : ¬ 0 ≤ m := c3
        rw [x_le, x_i0] at c3
        rw [bad (by unfold y_np; rw [decide_eq_false c3, Bool.and_false, Bool.and_false]), if_neg (by decide)]
        refine Exists.intro _ (And.intro c_refused (And.intro (And.intro (Nat.zero_le _) (Nat.zero_le _)) (fun q h' hpo => ?_)))
        obtain ⟨rfl, rfl⟩ := hpo
        refine And.intro ?_ ⟨Or.inl rfl, Nat.le_refl _, Nat.le_refl _⟩
        exact x_QT_0 hT
theorem c_pour_0_1 {p a m : Int32} (hT : x_TC f g T) : x_Ct 103 (d + 2) [.ref 0, .int (nI 0), .int p, .int (nI 1), .int a, .int m] (f, g, x_HR r t, dm, n) (x_QT f g (x_HR r t) dm n (st_pour T (nI 0) p (nI 1) a m)) := by
  have h1 := hT 0 (by decide)
  have h2 := hT 1 (by decide)
  have bad : (y_np p && (y_np a && y_np m)) = false → y_po T (nI 0) p (nI 1) a m = 1 := by
    intro hb
    unfold y_po
    rw [hb]
    exact if_neg (by decide)
  have good : (y_np p && (y_np a && y_np m)) = true → y_po T (nI 0) p (nI 1) a m = y_pp (T.1 0) (T.1 1) p a m := by
    intro hb
    unfold y_po
    rw [hb]
    exact if_pos (by decide)
  unfold st_pour
  refine x_Ct_w (by decide) (Nat.le_of_ble_eq_true rfl) ok103 [] 12 ?_
  refine Exists.intro _ (And.intro c_isTray (And.intro (And.intro (Nat.zero_le _) (Nat.zero_le _)) (fun q h' hpo => ?_)))
  obtain ⟨rfl, rfl⟩ := hpo
  refine And.intro (fun c => absurd c (by decide)) (fun _ => ?_)
  refine Exists.intro _ (And.intro c_isTray (And.intro (And.intro (Nat.zero_le _) (Nat.zero_le _)) (fun q h' hpo => ?_)))
  obtain ⟨rfl, rfl⟩ := hpo
  refine And.intro (fun c => absurd c (by decide)) (fun _ => ?_)
  refine And.intro (fun c1 => ?_) (fun c1 => ?_)
  · have c1 : p < 0 := c1
    rw [x_lt, x_i0] at c1
    rw [bad (by unfold y_np; rw [decide_eq_false (by omega : ¬ 0 ≤ p.toInt), Bool.false_and]), if_neg (by decide)]
    refine Exists.intro _ (And.intro c_refused (And.intro (And.intro (Nat.zero_le _) (Nat.zero_le _)) (fun q h' hpo => ?_)))
    obtain ⟨rfl, rfl⟩ := hpo
    refine And.intro ?_ ⟨Or.inl rfl, Nat.le_refl _, Nat.le_refl _⟩
    exact x_QT_0 hT
  · have c1 : ¬ p < 0 := c1
    rw [x_lt, x_i0] at c1
    refine And.intro (fun c2 => ?_) (fun c2 => ?_)
    · have c2 : a < 0 := c2
      rw [x_lt, x_i0] at c2
      rw [bad (by unfold y_np; rw [decide_eq_false (by omega : ¬ 0 ≤ a.toInt), Bool.false_and, Bool.and_false]), if_neg (by decide)]
      refine Exists.intro _ (And.intro c_refused (And.intro (And.intro (Nat.zero_le _) (Nat.zero_le _)) (fun q h' hpo => ?_)))
      obtain ⟨rfl, rfl⟩ := hpo
      refine And.intro ?_ ⟨Or.inl rfl, Nat.le_refl _, Nat.le_refl _⟩
      exact x_QT_0 hT
    · have c2 : ¬ a < 0 := c2
      rw [x_lt, x_i0] at c2
      refine And.intro (fun c3 => ?_) (fun c3 => ?_)
      · have c3 : 0 ≤ m := c3
        rw [x_le, x_i0] at c3
        obtain ⟨o1, ho⟩ : ∃ o1, T.1 0 = o1 := ⟨_, rfl⟩
        obtain ⟨o2, ho2⟩ : ∃ o2, T.1 1 = o2 := ⟨_, rfl⟩
        have hg := good (by unfold y_np; rw [decide_eq_true (by omega : 0 ≤ p.toInt), decide_eq_true (by omega : 0 ≤ a.toInt), decide_eq_true c3]; rfl)
        rw [show y_po T (nI 0) p (nI 1) a m = y_pp o1 o2 p a m by rw [hg, ← ho, ← ho2]]
        rw [ho] at h1
        rw [ho2] at h2
        refine And.intro (x_ix_nI (by omega) (by omega)) ?_
        rw [nI_clamp (by omega)]
        refine And.intro (x_ix_nI (by omega) (by omega)) ?_
        rw [nI_clamp (by omega)]
        refine Exists.intro _ (And.intro c_isMissing_0 (And.intro (And.intro (Nat.zero_le _) (Nat.zero_le _)) (fun q h' hpo => ?_)))
        obtain ⟨rfl, rfl⟩ := hpo
        cases o1 with
        | none =>
          have h1 : f 2 1 = -1 := h1
          rw [decide_eq_true h1]
          refine And.intro (fun _ => ?_) (fun c => absurd c (by decide))
          rw [show y_pp none o2 p a m = 2 from rfl, if_neg (by decide)]
          refine Exists.intro _ (And.intro c_refused (And.intro (And.intro (Nat.zero_le _) (Nat.zero_le _)) (fun q h' hpo => ?_)))
          obtain ⟨rfl, rfl⟩ := hpo
          refine And.intro ?_ ⟨Or.inl rfl, Nat.le_refl _, Nat.le_refl _⟩
          exact x_QT_0 hT
        | some c =>
          obtain ⟨a1, a2, a3, a4, a5⟩ := h1
          have a1 : f 2 1 = nI c.2 := a1
          have a2 : f 2 2 = nI c.1 := a2
          rw [decide_eq_false (by rw [a1]; exact x_nIm (by omega))]
          refine And.intro (fun c => absurd rfl c) (fun _ => ?_)
          refine Exists.intro _ (And.intro c_isMissing_1 (And.intro (And.intro (Nat.zero_le _) (Nat.zero_le _)) (fun q h' hpo => ?_)))
          obtain ⟨rfl, rfl⟩ := hpo
          cases o2 with
          | none =>
            have h2 : f 4 1 = -1 := h2
            rw [decide_eq_true h2]
            refine And.intro (fun c => absurd c (by decide)) (fun _ => ?_)
            rw [show y_pp (some c) none p a m = 2 from rfl, if_neg (by decide)]
            refine Exists.intro _ (And.intro c_refused (And.intro (And.intro (Nat.zero_le _) (Nat.zero_le _)) (fun q h' hpo => ?_)))
            obtain ⟨rfl, rfl⟩ := hpo
            refine And.intro ?_ ⟨Or.inl rfl, Nat.le_refl _, Nat.le_refl _⟩
            exact x_QT_0 hT
          | some e =>
            obtain ⟨b1, b2, b3, b4, b5⟩ := h2
            have b1 : f 4 1 = nI e.2 := b1
            have b2 : f 4 2 = nI e.1 := b2
            rw [decide_eq_false (by rw [b1]; exact x_nIm (by omega))]
            refine And.intro (fun _ => ?_) (fun c => absurd rfl c)
            have ePP : y_pp (some c) (some e) p a m = if c.1 = e.1 then (if p.toInt + m.toInt ≤ c.2 ∧ a.toInt + m.toInt ≤ e.2 then 0 else 3) else 8 := rfl
            refine And.intro (fun c4 => ?_) (fun c4 => ?_)
            · have c4 : f 2 2 = f 4 2 := c4
              have c4 : nI c.1 = nI e.1 := a2.symm.trans (c4.trans b2)
              rw [nI_eq (by omega) (by omega)] at c4
              rw [if_pos c4] at ePP
              refine And.intro (fun c5 => ?_) (fun c5 => ?_)
              · have c5 : 0 < lg_cmp (p.toInt64 + m.toInt64) (f 2 1).toInt64 := c5
                rw [x_lg_gt, Int64.lt_iff_toInt_lt, x_ladd, x_l2, a1, nI_toInt (by omega)] at c5
                rw [if_neg (by omega)] at ePP
                rw [ePP, if_neg (by decide)]
                refine Exists.intro _ (And.intro c_refused (And.intro (And.intro (Nat.zero_le _) (Nat.zero_le _)) (fun q h' hpo => ?_)))
                obtain ⟨rfl, rfl⟩ := hpo
                refine And.intro ?_ ⟨Or.inl rfl, Nat.le_refl _, Nat.le_refl _⟩
                exact x_QT_0 hT
              · have c5 : ¬ 0 < lg_cmp (p.toInt64 + m.toInt64) (f 2 1).toInt64 := c5
                rw [x_lg_gt, Int64.lt_iff_toInt_lt, x_ladd, x_l2, a1, nI_toInt (by omega)] at c5
                refine And.intro (fun c6 => ?_) (fun c6 => ?_)
                · have c6 : lg_cmp (a.toInt64 + m.toInt64) (f 4 1).toInt64 ≤ 0 := c6
                  rw [← Int32.not_lt, x_lg_gt, Int64.lt_iff_toInt_lt, x_ladd, x_l2, b1, nI_toInt (by omega)] at c6
                  rw [if_pos (by omega)] at ePP
                  rw [ePP, if_pos rfl]
                  refine And.intro (by show 0 ≤ p.toInt ∧ 0 ≤ a.toInt ∧ 0 ≤ m.toInt ∧ p.toInt + m.toInt ≤ 60 ∧ a.toInt + m.toInt ≤ 60; omega) ?_
                  refine Exists.intro _ (And.intro c_agreed (And.intro (And.intro (Nat.zero_le _) (Nat.zero_le _)) (fun q h' hpo => ?_)))
                  obtain ⟨rfl, rfl⟩ := hpo
                  refine And.intro ?_ ⟨Or.inr rfl, Nat.le_refl _, Nat.le_refl _⟩
                  obtain ⟨p, hp, rfl⟩ := nI_of (x := p) (by rw [x_lt, x_i0]; omega)
                  obtain ⟨a, ha, rfl⟩ := nI_of (x := a) (by rw [x_lt, x_i0]; omega)
                  obtain ⟨m, hm, rfl⟩ := nI_of (x := m) (by rw [x_lt, x_i0]; omega)
                  rw [nI_toInt hp, nI_toInt hm] at c5
                  rw [nI_toInt ha, nI_toInt hm] at c6
                  rw [show x_c (nI p) = p from nI_clamp hp, show x_c (nI a) = a from nI_clamp ha, show x_c (nI m) = m from nI_clamp hm, show x_c (nI 1) = 1 from rfl]
                  try rw [show x_c (nI 0) = 0 from rfl]
                  rw [ho2]
                  try rw [nI_clamp hp]
                  try rw [nI_clamp ha]
                  try rw [nI_clamp hm]
                  refine x_QT_S (x_TC_set (F := f) (G := va_up g 5 (va_cpy (g 3) (g 5) p a m)) (i := 1) (c := some e) (u := va_cpy (T.2 0) (T.2 1) p a m) hT (fun _ _ => rfl) (fun k hk => x_un hk) ⟨b1, b2, b3, b4, fun k hk => ?_⟩) (fun _ _ => rfl) (fun k hk => x_un (by omega))
                  show va_up g 5 (va_cpy (g 3) (g 5) p a m) 5 k = va_cpy (T.2 0) (T.2 1) p a m k
                  rw [x_us]
                  unfold va_cpy
                  by_cases hc : a ≤ k ∧ k < a + m
                  · rw [if_pos hc, if_pos hc]
                    exact a5 _ (by omega)
                  · rw [if_neg hc, if_neg hc]
                    exact b5 k hk
                · have c6 : ¬ lg_cmp (a.toInt64 + m.toInt64) (f 4 1).toInt64 ≤ 0 := c6
                  rw [← Int32.not_lt, x_lg_gt, Int64.lt_iff_toInt_lt, x_ladd, x_l2, b1, nI_toInt (by omega)] at c6
                  rw [if_neg (by omega)] at ePP
                  rw [ePP, if_neg (by decide)]
                  refine Exists.intro _ (And.intro c_refused (And.intro (And.intro (Nat.zero_le _) (Nat.zero_le _)) (fun q h' hpo => ?_)))
                  obtain ⟨rfl, rfl⟩ := hpo
                  refine And.intro ?_ ⟨Or.inl rfl, Nat.le_refl _, Nat.le_refl _⟩
                  exact x_QT_0 hT
            · have c4 : ¬ f 2 2 = f 4 2 := c4
              have c4 : ¬ nI c.1 = nI e.1 := fun q => c4 (a2.trans (q.trans b2.symm))
              rw [nI_eq (by omega) (by omega)] at c4
              rw [if_neg c4] at ePP
              rw [ePP, if_neg (by decide)]
              refine Exists.intro _ (And.intro c_refused (And.intro (And.intro (Nat.zero_le _) (Nat.zero_le _)) (fun q h' hpo => ?_)))
              obtain ⟨rfl, rfl⟩ := hpo
              refine And.intro ?_ ⟨Or.inl rfl, Nat.le_refl _, Nat.le_refl _⟩
              exact x_QT_0 hT
      · have c3 : ¬ 0 ≤ m := c3
        rw [x_le, x_i0] at c3
        rw [bad (by unfold y_np; rw [decide_eq_false c3, Bool.and_false, Bool.and_false]), if_neg (by decide)]
        refine Exists.intro _ (And.intro c_refused (And.intro (And.intro (Nat.zero_le _) (Nat.zero_le _)) (fun q h' hpo => ?_)))
        obtain ⟨rfl, rfl⟩ := hpo
        refine And.intro ?_ ⟨Or.inl rfl, Nat.le_refl _, Nat.le_refl _⟩
        exact x_QT_0 hT
theorem c_pour_0_2 {p a m : Int32} (hT : x_TC f g T) : x_Ct 103 (d + 2) [.ref 0, .int (nI 0), .int p, .int (nI 2), .int a, .int m] (f, g, x_HR r t, dm, n) (x_QT f g (x_HR r t) dm n (st_pour T (nI 0) p (nI 2) a m)) := by
  have h1 := hT 0 (by decide)
  have h2 := hT 2 (by decide)
  have bad : (y_np p && (y_np a && y_np m)) = false → y_po T (nI 0) p (nI 2) a m = 1 := by
    intro hb
    unfold y_po
    rw [hb]
    exact if_neg (by decide)
  have good : (y_np p && (y_np a && y_np m)) = true → y_po T (nI 0) p (nI 2) a m = y_pp (T.1 0) (T.1 2) p a m := by
    intro hb
    unfold y_po
    rw [hb]
    exact if_pos (by decide)
  unfold st_pour
  refine x_Ct_w (by decide) (Nat.le_of_ble_eq_true rfl) ok103 [] 12 ?_
  refine Exists.intro _ (And.intro c_isTray (And.intro (And.intro (Nat.zero_le _) (Nat.zero_le _)) (fun q h' hpo => ?_)))
  obtain ⟨rfl, rfl⟩ := hpo
  refine And.intro (fun c => absurd c (by decide)) (fun _ => ?_)
  refine Exists.intro _ (And.intro c_isTray (And.intro (And.intro (Nat.zero_le _) (Nat.zero_le _)) (fun q h' hpo => ?_)))
  obtain ⟨rfl, rfl⟩ := hpo
  refine And.intro (fun c => absurd c (by decide)) (fun _ => ?_)
  refine And.intro (fun c1 => ?_) (fun c1 => ?_)
  · have c1 : p < 0 := c1
    rw [x_lt, x_i0] at c1
    rw [bad (by unfold y_np; rw [decide_eq_false (by omega : ¬ 0 ≤ p.toInt), Bool.false_and]), if_neg (by decide)]
    refine Exists.intro _ (And.intro c_refused (And.intro (And.intro (Nat.zero_le _) (Nat.zero_le _)) (fun q h' hpo => ?_)))
    obtain ⟨rfl, rfl⟩ := hpo
    refine And.intro ?_ ⟨Or.inl rfl, Nat.le_refl _, Nat.le_refl _⟩
    exact x_QT_0 hT
  · have c1 : ¬ p < 0 := c1
    rw [x_lt, x_i0] at c1
    refine And.intro (fun c2 => ?_) (fun c2 => ?_)
    · have c2 : a < 0 := c2
      rw [x_lt, x_i0] at c2
      rw [bad (by unfold y_np; rw [decide_eq_false (by omega : ¬ 0 ≤ a.toInt), Bool.false_and, Bool.and_false]), if_neg (by decide)]
      refine Exists.intro _ (And.intro c_refused (And.intro (And.intro (Nat.zero_le _) (Nat.zero_le _)) (fun q h' hpo => ?_)))
      obtain ⟨rfl, rfl⟩ := hpo
      refine And.intro ?_ ⟨Or.inl rfl, Nat.le_refl _, Nat.le_refl _⟩
      exact x_QT_0 hT
    · have c2 : ¬ a < 0 := c2
      rw [x_lt, x_i0] at c2
      refine And.intro (fun c3 => ?_) (fun c3 => ?_)
      · have c3 : 0 ≤ m := c3
        rw [x_le, x_i0] at c3
        obtain ⟨o1, ho⟩ : ∃ o1, T.1 0 = o1 := ⟨_, rfl⟩
        obtain ⟨o2, ho2⟩ : ∃ o2, T.1 2 = o2 := ⟨_, rfl⟩
        have hg := good (by unfold y_np; rw [decide_eq_true (by omega : 0 ≤ p.toInt), decide_eq_true (by omega : 0 ≤ a.toInt), decide_eq_true c3]; rfl)
        rw [show y_po T (nI 0) p (nI 2) a m = y_pp o1 o2 p a m by rw [hg, ← ho, ← ho2]]
        rw [ho] at h1
        rw [ho2] at h2
        refine And.intro (x_ix_nI (by omega) (by omega)) ?_
        rw [nI_clamp (by omega)]
        refine And.intro (x_ix_nI (by omega) (by omega)) ?_
        rw [nI_clamp (by omega)]
        refine Exists.intro _ (And.intro c_isMissing_0 (And.intro (And.intro (Nat.zero_le _) (Nat.zero_le _)) (fun q h' hpo => ?_)))
        obtain ⟨rfl, rfl⟩ := hpo
        cases o1 with
        | none =>
          have h1 : f 2 1 = -1 := h1
          rw [decide_eq_true h1]
          refine And.intro (fun _ => ?_) (fun c => absurd c (by decide))
          rw [show y_pp none o2 p a m = 2 from rfl, if_neg (by decide)]
          refine Exists.intro _ (And.intro c_refused (And.intro (And.intro (Nat.zero_le _) (Nat.zero_le _)) (fun q h' hpo => ?_)))
          obtain ⟨rfl, rfl⟩ := hpo
          refine And.intro ?_ ⟨Or.inl rfl, Nat.le_refl _, Nat.le_refl _⟩
          exact x_QT_0 hT
        | some c =>
          obtain ⟨a1, a2, a3, a4, a5⟩ := h1
          have a1 : f 2 1 = nI c.2 := a1
          have a2 : f 2 2 = nI c.1 := a2
          rw [decide_eq_false (by rw [a1]; exact x_nIm (by omega))]
          refine And.intro (fun c => absurd rfl c) (fun _ => ?_)
          refine Exists.intro _ (And.intro c_isMissing_2 (And.intro (And.intro (Nat.zero_le _) (Nat.zero_le _)) (fun q h' hpo => ?_)))
          obtain ⟨rfl, rfl⟩ := hpo
          cases o2 with
          | none =>
            have h2 : f 6 1 = -1 := h2
            rw [decide_eq_true h2]
            refine And.intro (fun c => absurd c (by decide)) (fun _ => ?_)
            rw [show y_pp (some c) none p a m = 2 from rfl, if_neg (by decide)]
            refine Exists.intro _ (And.intro c_refused (And.intro (And.intro (Nat.zero_le _) (Nat.zero_le _)) (fun q h' hpo => ?_)))
            obtain ⟨rfl, rfl⟩ := hpo
            refine And.intro ?_ ⟨Or.inl rfl, Nat.le_refl _, Nat.le_refl _⟩
            exact x_QT_0 hT
          | some e =>
            obtain ⟨b1, b2, b3, b4, b5⟩ := h2
            have b1 : f 6 1 = nI e.2 := b1
            have b2 : f 6 2 = nI e.1 := b2
            rw [decide_eq_false (by rw [b1]; exact x_nIm (by omega))]
            refine And.intro (fun _ => ?_) (fun c => absurd rfl c)
            have ePP : y_pp (some c) (some e) p a m = if c.1 = e.1 then (if p.toInt + m.toInt ≤ c.2 ∧ a.toInt + m.toInt ≤ e.2 then 0 else 3) else 8 := rfl
            refine And.intro (fun c4 => ?_) (fun c4 => ?_)
            · have c4 : f 2 2 = f 6 2 := c4
              have c4 : nI c.1 = nI e.1 := a2.symm.trans (c4.trans b2)
              rw [nI_eq (by omega) (by omega)] at c4
              rw [if_pos c4] at ePP
              refine And.intro (fun c5 => ?_) (fun c5 => ?_)
              · have c5 : 0 < lg_cmp (p.toInt64 + m.toInt64) (f 2 1).toInt64 := c5
                rw [x_lg_gt, Int64.lt_iff_toInt_lt, x_ladd, x_l2, a1, nI_toInt (by omega)] at c5
                rw [if_neg (by omega)] at ePP
                rw [ePP, if_neg (by decide)]
                refine Exists.intro _ (And.intro c_refused (And.intro (And.intro (Nat.zero_le _) (Nat.zero_le _)) (fun q h' hpo => ?_)))
                obtain ⟨rfl, rfl⟩ := hpo
                refine And.intro ?_ ⟨Or.inl rfl, Nat.le_refl _, Nat.le_refl _⟩
                exact x_QT_0 hT
              · have c5 : ¬ 0 < lg_cmp (p.toInt64 + m.toInt64) (f 2 1).toInt64 := c5
                rw [x_lg_gt, Int64.lt_iff_toInt_lt, x_ladd, x_l2, a1, nI_toInt (by omega)] at c5
                refine And.intro (fun c6 => ?_) (fun c6 => ?_)
                · have c6 : lg_cmp (a.toInt64 + m.toInt64) (f 6 1).toInt64 ≤ 0 := c6
                  rw [← Int32.not_lt, x_lg_gt, Int64.lt_iff_toInt_lt, x_ladd, x_l2, b1, nI_toInt (by omega)] at c6
                  rw [if_pos (by omega)] at ePP
                  rw [ePP, if_pos rfl]
                  refine And.intro (by show 0 ≤ p.toInt ∧ 0 ≤ a.toInt ∧ 0 ≤ m.toInt ∧ p.toInt + m.toInt ≤ 60 ∧ a.toInt + m.toInt ≤ 60; omega) ?_
                  refine Exists.intro _ (And.intro c_agreed (And.intro (And.intro (Nat.zero_le _) (Nat.zero_le _)) (fun q h' hpo => ?_)))
                  obtain ⟨rfl, rfl⟩ := hpo
                  refine And.intro ?_ ⟨Or.inr rfl, Nat.le_refl _, Nat.le_refl _⟩
                  obtain ⟨p, hp, rfl⟩ := nI_of (x := p) (by rw [x_lt, x_i0]; omega)
                  obtain ⟨a, ha, rfl⟩ := nI_of (x := a) (by rw [x_lt, x_i0]; omega)
                  obtain ⟨m, hm, rfl⟩ := nI_of (x := m) (by rw [x_lt, x_i0]; omega)
                  rw [nI_toInt hp, nI_toInt hm] at c5
                  rw [nI_toInt ha, nI_toInt hm] at c6
                  rw [show x_c (nI p) = p from nI_clamp hp, show x_c (nI a) = a from nI_clamp ha, show x_c (nI m) = m from nI_clamp hm, show x_c (nI 2) = 2 from rfl]
                  try rw [show x_c (nI 0) = 0 from rfl]
                  rw [ho2]
                  try rw [nI_clamp hp]
                  try rw [nI_clamp ha]
                  try rw [nI_clamp hm]
                  refine x_QT_S (x_TC_set (F := f) (G := va_up g 7 (va_cpy (g 3) (g 7) p a m)) (i := 2) (c := some e) (u := va_cpy (T.2 0) (T.2 2) p a m) hT (fun _ _ => rfl) (fun k hk => x_un hk) ⟨b1, b2, b3, b4, fun k hk => ?_⟩) (fun _ _ => rfl) (fun k hk => x_un (by omega))
                  show va_up g 7 (va_cpy (g 3) (g 7) p a m) 7 k = va_cpy (T.2 0) (T.2 2) p a m k
                  rw [x_us]
                  unfold va_cpy
                  by_cases hc : a ≤ k ∧ k < a + m
                  · rw [if_pos hc, if_pos hc]
                    exact a5 _ (by omega)
                  · rw [if_neg hc, if_neg hc]
                    exact b5 k hk
                · have c6 : ¬ lg_cmp (a.toInt64 + m.toInt64) (f 6 1).toInt64 ≤ 0 := c6
                  rw [← Int32.not_lt, x_lg_gt, Int64.lt_iff_toInt_lt, x_ladd, x_l2, b1, nI_toInt (by omega)] at c6
                  rw [if_neg (by omega)] at ePP
                  rw [ePP, if_neg (by decide)]
                  refine Exists.intro _ (And.intro c_refused (And.intro (And.intro (Nat.zero_le _) (Nat.zero_le _)) (fun q h' hpo => ?_)))
                  obtain ⟨rfl, rfl⟩ := hpo
                  refine And.intro ?_ ⟨Or.inl rfl, Nat.le_refl _, Nat.le_refl _⟩
                  exact x_QT_0 hT
            · have c4 : ¬ f 2 2 = f 6 2 := c4
              have c4 : ¬ nI c.1 = nI e.1 := fun q => c4 (a2.trans (q.trans b2.symm))
              rw [nI_eq (by omega) (by omega)] at c4
              rw [if_neg c4] at ePP
              rw [ePP, if_neg (by decide)]
              refine Exists.intro _ (And.intro c_refused (And.intro (And.intro (Nat.zero_le _) (Nat.zero_le _)) (fun q h' hpo => ?_)))
              obtain ⟨rfl, rfl⟩ := hpo
              refine And.intro ?_ ⟨Or.inl rfl, Nat.le_refl _, Nat.le_refl _⟩
              exact x_QT_0 hT
      · have c3 : ¬ 0 ≤ m := c3
        rw [x_le, x_i0] at c3
        rw [bad (by unfold y_np; rw [decide_eq_false c3, Bool.and_false, Bool.and_false]), if_neg (by decide)]
        refine Exists.intro _ (And.intro c_refused (And.intro (And.intro (Nat.zero_le _) (Nat.zero_le _)) (fun q h' hpo => ?_)))
        obtain ⟨rfl, rfl⟩ := hpo
        refine And.intro ?_ ⟨Or.inl rfl, Nat.le_refl _, Nat.le_refl _⟩
        exact x_QT_0 hT
theorem c_pour_0_3 {p a m : Int32} (hT : x_TC f g T) : x_Ct 103 (d + 2) [.ref 0, .int (nI 0), .int p, .int (nI 3), .int a, .int m] (f, g, x_HR r t, dm, n) (x_QT f g (x_HR r t) dm n (st_pour T (nI 0) p (nI 3) a m)) := by
  have h1 := hT 0 (by decide)
  have h2 := hT 3 (by decide)
  have bad : (y_np p && (y_np a && y_np m)) = false → y_po T (nI 0) p (nI 3) a m = 1 := by
    intro hb
    unfold y_po
    rw [hb]
    exact if_neg (by decide)
  have good : (y_np p && (y_np a && y_np m)) = true → y_po T (nI 0) p (nI 3) a m = y_pp (T.1 0) (T.1 3) p a m := by
    intro hb
    unfold y_po
    rw [hb]
    exact if_pos (by decide)
  unfold st_pour
  refine x_Ct_w (by decide) (Nat.le_of_ble_eq_true rfl) ok103 [] 12 ?_
  refine Exists.intro _ (And.intro c_isTray (And.intro (And.intro (Nat.zero_le _) (Nat.zero_le _)) (fun q h' hpo => ?_)))
  obtain ⟨rfl, rfl⟩ := hpo
  refine And.intro (fun c => absurd c (by decide)) (fun _ => ?_)
  refine Exists.intro _ (And.intro c_isTray (And.intro (And.intro (Nat.zero_le _) (Nat.zero_le _)) (fun q h' hpo => ?_)))
  obtain ⟨rfl, rfl⟩ := hpo
  refine And.intro (fun c => absurd c (by decide)) (fun _ => ?_)
  refine And.intro (fun c1 => ?_) (fun c1 => ?_)
  · have c1 : p < 0 := c1
    rw [x_lt, x_i0] at c1
    rw [bad (by unfold y_np; rw [decide_eq_false (by omega : ¬ 0 ≤ p.toInt), Bool.false_and]), if_neg (by decide)]
    refine Exists.intro _ (And.intro c_refused (And.intro (And.intro (Nat.zero_le _) (Nat.zero_le _)) (fun q h' hpo => ?_)))
    obtain ⟨rfl, rfl⟩ := hpo
    refine And.intro ?_ ⟨Or.inl rfl, Nat.le_refl _, Nat.le_refl _⟩
    exact x_QT_0 hT
  · have c1 : ¬ p < 0 := c1
    rw [x_lt, x_i0] at c1
    refine And.intro (fun c2 => ?_) (fun c2 => ?_)
    · have c2 : a < 0 := c2
      rw [x_lt, x_i0] at c2
      rw [bad (by unfold y_np; rw [decide_eq_false (by omega : ¬ 0 ≤ a.toInt), Bool.false_and, Bool.and_false]), if_neg (by decide)]
      refine Exists.intro _ (And.intro c_refused (And.intro (And.intro (Nat.zero_le _) (Nat.zero_le _)) (fun q h' hpo => ?_)))
      obtain ⟨rfl, rfl⟩ := hpo
      refine And.intro ?_ ⟨Or.inl rfl, Nat.le_refl _, Nat.le_refl _⟩
      exact x_QT_0 hT
    · have c2 : ¬ a < 0 := c2
      rw [x_lt, x_i0] at c2
      refine And.intro (fun c3 => ?_) (fun c3 => ?_)
      · have c3 : 0 ≤ m := c3
        rw [x_le, x_i0] at c3
        obtain ⟨o1, ho⟩ : ∃ o1, T.1 0 = o1 := ⟨_, rfl⟩
        obtain ⟨o2, ho2⟩ : ∃ o2, T.1 3 = o2 := ⟨_, rfl⟩
        have hg := good (by unfold y_np; rw [decide_eq_true (by omega : 0 ≤ p.toInt), decide_eq_true (by omega : 0 ≤ a.toInt), decide_eq_true c3]; rfl)
        rw [show y_po T (nI 0) p (nI 3) a m = y_pp o1 o2 p a m by rw [hg, ← ho, ← ho2]]
        rw [ho] at h1
        rw [ho2] at h2
        refine And.intro (x_ix_nI (by omega) (by omega)) ?_
        rw [nI_clamp (by omega)]
        refine And.intro (x_ix_nI (by omega) (by omega)) ?_
        rw [nI_clamp (by omega)]
        refine Exists.intro _ (And.intro c_isMissing_0 (And.intro (And.intro (Nat.zero_le _) (Nat.zero_le _)) (fun q h' hpo => ?_)))
        obtain ⟨rfl, rfl⟩ := hpo
        cases o1 with
        | none =>
          have h1 : f 2 1 = -1 := h1
          rw [decide_eq_true h1]
          refine And.intro (fun _ => ?_) (fun c => absurd c (by decide))
          rw [show y_pp none o2 p a m = 2 from rfl, if_neg (by decide)]
          refine Exists.intro _ (And.intro c_refused (And.intro (And.intro (Nat.zero_le _) (Nat.zero_le _)) (fun q h' hpo => ?_)))
          obtain ⟨rfl, rfl⟩ := hpo
          refine And.intro ?_ ⟨Or.inl rfl, Nat.le_refl _, Nat.le_refl _⟩
          exact x_QT_0 hT
        | some c =>
          obtain ⟨a1, a2, a3, a4, a5⟩ := h1
          have a1 : f 2 1 = nI c.2 := a1
          have a2 : f 2 2 = nI c.1 := a2
          rw [decide_eq_false (by rw [a1]; exact x_nIm (by omega))]
          refine And.intro (fun c => absurd rfl c) (fun _ => ?_)
          refine Exists.intro _ (And.intro c_isMissing_3 (And.intro (And.intro (Nat.zero_le _) (Nat.zero_le _)) (fun q h' hpo => ?_)))
          obtain ⟨rfl, rfl⟩ := hpo
          cases o2 with
          | none =>
            have h2 : f 8 1 = -1 := h2
            rw [decide_eq_true h2]
            refine And.intro (fun c => absurd c (by decide)) (fun _ => ?_)
            rw [show y_pp (some c) none p a m = 2 from rfl, if_neg (by decide)]
            refine Exists.intro _ (And.intro c_refused (And.intro (And.intro (Nat.zero_le _) (Nat.zero_le _)) (fun q h' hpo => ?_)))
            obtain ⟨rfl, rfl⟩ := hpo
            refine And.intro ?_ ⟨Or.inl rfl, Nat.le_refl _, Nat.le_refl _⟩
            exact x_QT_0 hT
          | some e =>
            obtain ⟨b1, b2, b3, b4, b5⟩ := h2
            have b1 : f 8 1 = nI e.2 := b1
            have b2 : f 8 2 = nI e.1 := b2
            rw [decide_eq_false (by rw [b1]; exact x_nIm (by omega))]
            refine And.intro (fun _ => ?_) (fun c => absurd rfl c)
            have ePP : y_pp (some c) (some e) p a m = if c.1 = e.1 then (if p.toInt + m.toInt ≤ c.2 ∧ a.toInt + m.toInt ≤ e.2 then 0 else 3) else 8 := rfl
            refine And.intro (fun c4 => ?_) (fun c4 => ?_)
            · have c4 : f 2 2 = f 8 2 := c4
              have c4 : nI c.1 = nI e.1 := a2.symm.trans (c4.trans b2)
              rw [nI_eq (by omega) (by omega)] at c4
              rw [if_pos c4] at ePP
              refine And.intro (fun c5 => ?_) (fun c5 => ?_)
              · have c5 : 0 < lg_cmp (p.toInt64 + m.toInt64) (f 2 1).toInt64 := c5
                rw [x_lg_gt, Int64.lt_iff_toInt_lt, x_ladd, x_l2, a1, nI_toInt (by omega)] at c5
                rw [if_neg (by omega)] at ePP
                rw [ePP, if_neg (by decide)]
                refine Exists.intro _ (And.intro c_refused (And.intro (And.intro (Nat.zero_le _) (Nat.zero_le _)) (fun q h' hpo => ?_)))
                obtain ⟨rfl, rfl⟩ := hpo
                refine And.intro ?_ ⟨Or.inl rfl, Nat.le_refl _, Nat.le_refl _⟩
                exact x_QT_0 hT
              · have c5 : ¬ 0 < lg_cmp (p.toInt64 + m.toInt64) (f 2 1).toInt64 := c5
                rw [x_lg_gt, Int64.lt_iff_toInt_lt, x_ladd, x_l2, a1, nI_toInt (by omega)] at c5
                refine And.intro (fun c6 => ?_) (fun c6 => ?_)
                · have c6 : lg_cmp (a.toInt64 + m.toInt64) (f 8 1).toInt64 ≤ 0 := c6
                  rw [← Int32.not_lt, x_lg_gt, Int64.lt_iff_toInt_lt, x_ladd, x_l2, b1, nI_toInt (by omega)] at c6
                  rw [if_pos (by omega)] at ePP
                  rw [ePP, if_pos rfl]
                  refine And.intro (by show 0 ≤ p.toInt ∧ 0 ≤ a.toInt ∧ 0 ≤ m.toInt ∧ p.toInt + m.toInt ≤ 60 ∧ a.toInt + m.toInt ≤ 60; omega) ?_
                  refine Exists.intro _ (And.intro c_agreed (And.intro (And.intro (Nat.zero_le _) (Nat.zero_le _)) (fun q h' hpo => ?_)))
                  obtain ⟨rfl, rfl⟩ := hpo
                  refine And.intro ?_ ⟨Or.inr rfl, Nat.le_refl _, Nat.le_refl _⟩
                  obtain ⟨p, hp, rfl⟩ := nI_of (x := p) (by rw [x_lt, x_i0]; omega)
                  obtain ⟨a, ha, rfl⟩ := nI_of (x := a) (by rw [x_lt, x_i0]; omega)
                  obtain ⟨m, hm, rfl⟩ := nI_of (x := m) (by rw [x_lt, x_i0]; omega)
                  rw [nI_toInt hp, nI_toInt hm] at c5
                  rw [nI_toInt ha, nI_toInt hm] at c6
                  rw [show x_c (nI p) = p from nI_clamp hp, show x_c (nI a) = a from nI_clamp ha, show x_c (nI m) = m from nI_clamp hm, show x_c (nI 3) = 3 from rfl]
                  try rw [show x_c (nI 0) = 0 from rfl]
                  rw [ho2]
                  try rw [nI_clamp hp]
                  try rw [nI_clamp ha]
                  try rw [nI_clamp hm]
                  refine x_QT_S (x_TC_set (F := f) (G := va_up g 9 (va_cpy (g 3) (g 9) p a m)) (i := 3) (c := some e) (u := va_cpy (T.2 0) (T.2 3) p a m) hT (fun _ _ => rfl) (fun k hk => x_un hk) ⟨b1, b2, b3, b4, fun k hk => ?_⟩) (fun _ _ => rfl) (fun k hk => x_un (by omega))
                  show va_up g 9 (va_cpy (g 3) (g 9) p a m) 9 k = va_cpy (T.2 0) (T.2 3) p a m k
                  rw [x_us]
                  unfold va_cpy
                  by_cases hc : a ≤ k ∧ k < a + m
                  · rw [if_pos hc, if_pos hc]
                    exact a5 _ (by omega)
                  · rw [if_neg hc, if_neg hc]
                    exact b5 k hk
                · have c6 : ¬ lg_cmp (a.toInt64 + m.toInt64) (f 8 1).toInt64 ≤ 0 := c6
                  rw [← Int32.not_lt, x_lg_gt, Int64.lt_iff_toInt_lt, x_ladd, x_l2, b1, nI_toInt (by omega)] at c6
                  rw [if_neg (by omega)] at ePP
                  rw [ePP, if_neg (by decide)]
                  refine Exists.intro _ (And.intro c_refused (And.intro (And.intro (Nat.zero_le _) (Nat.zero_le _)) (fun q h' hpo => ?_)))
                  obtain ⟨rfl, rfl⟩ := hpo
                  refine And.intro ?_ ⟨Or.inl rfl, Nat.le_refl _, Nat.le_refl _⟩
                  exact x_QT_0 hT
            · have c4 : ¬ f 2 2 = f 8 2 := c4
              have c4 : ¬ nI c.1 = nI e.1 := fun q => c4 (a2.trans (q.trans b2.symm))
              rw [nI_eq (by omega) (by omega)] at c4
              rw [if_neg c4] at ePP
              rw [ePP, if_neg (by decide)]
              refine Exists.intro _ (And.intro c_refused (And.intro (And.intro (Nat.zero_le _) (Nat.zero_le _)) (fun q h' hpo => ?_)))
              obtain ⟨rfl, rfl⟩ := hpo
              refine And.intro ?_ ⟨Or.inl rfl, Nat.le_refl _, Nat.le_refl _⟩
              exact x_QT_0 hT
      · have c3 : ¬ 0 ≤ m := c3
        rw [x_le, x_i0] at c3
        rw [bad (by unfold y_np; rw [decide_eq_false c3, Bool.and_false, Bool.and_false]), if_neg (by decide)]
        refine Exists.intro _ (And.intro c_refused (And.intro (And.intro (Nat.zero_le _) (Nat.zero_le _)) (fun q h' hpo => ?_)))
        obtain ⟨rfl, rfl⟩ := hpo
        refine And.intro ?_ ⟨Or.inl rfl, Nat.le_refl _, Nat.le_refl _⟩
        exact x_QT_0 hT
theorem c_pour_1_0 {p a m : Int32} (hT : x_TC f g T) : x_Ct 103 (d + 2) [.ref 0, .int (nI 1), .int p, .int (nI 0), .int a, .int m] (f, g, x_HR r t, dm, n) (x_QT f g (x_HR r t) dm n (st_pour T (nI 1) p (nI 0) a m)) := by
  have h1 := hT 1 (by decide)
  have h2 := hT 0 (by decide)
  have bad : (y_np p && (y_np a && y_np m)) = false → y_po T (nI 1) p (nI 0) a m = 1 := by
    intro hb
    unfold y_po
    rw [hb]
    exact if_neg (by decide)
  have good : (y_np p && (y_np a && y_np m)) = true → y_po T (nI 1) p (nI 0) a m = y_pp (T.1 1) (T.1 0) p a m := by
    intro hb
    unfold y_po
    rw [hb]
    exact if_pos (by decide)
  unfold st_pour
  refine x_Ct_w (by decide) (Nat.le_of_ble_eq_true rfl) ok103 [] 12 ?_
  refine Exists.intro _ (And.intro c_isTray (And.intro (And.intro (Nat.zero_le _) (Nat.zero_le _)) (fun q h' hpo => ?_)))
  obtain ⟨rfl, rfl⟩ := hpo
  refine And.intro (fun c => absurd c (by decide)) (fun _ => ?_)
  refine Exists.intro _ (And.intro c_isTray (And.intro (And.intro (Nat.zero_le _) (Nat.zero_le _)) (fun q h' hpo => ?_)))
  obtain ⟨rfl, rfl⟩ := hpo
  refine And.intro (fun c => absurd c (by decide)) (fun _ => ?_)
  refine And.intro (fun c1 => ?_) (fun c1 => ?_)
  · have c1 : p < 0 := c1
    rw [x_lt, x_i0] at c1
    rw [bad (by unfold y_np; rw [decide_eq_false (by omega : ¬ 0 ≤ p.toInt), Bool.false_and]), if_neg (by decide)]
    refine Exists.intro _ (And.intro c_refused (And.intro (And.intro (Nat.zero_le _) (Nat.zero_le _)) (fun q h' hpo => ?_)))
    obtain ⟨rfl, rfl⟩ := hpo
    refine And.intro ?_ ⟨Or.inl rfl, Nat.le_refl _, Nat.le_refl _⟩
    exact x_QT_0 hT
  · have c1 : ¬ p < 0 := c1
    rw [x_lt, x_i0] at c1
    refine And.intro (fun c2 => ?_) (fun c2 => ?_)
    · have c2 : a < 0 := c2
      rw [x_lt, x_i0] at c2
      rw [bad (by unfold y_np; rw [decide_eq_false (by omega : ¬ 0 ≤ a.toInt), Bool.false_and, Bool.and_false]), if_neg (by decide)]
      refine Exists.intro _ (And.intro c_refused (And.intro (And.intro (Nat.zero_le _) (Nat.zero_le _)) (fun q h' hpo => ?_)))
      obtain ⟨rfl, rfl⟩ := hpo
      refine And.intro ?_ ⟨Or.inl rfl, Nat.le_refl _, Nat.le_refl _⟩
      exact x_QT_0 hT
    · have c2 : ¬ a < 0 := c2
      rw [x_lt, x_i0] at c2
      refine And.intro (fun c3 => ?_) (fun c3 => ?_)
      · have c3 : 0 ≤ m := c3
        rw [x_le, x_i0] at c3
        obtain ⟨o1, ho⟩ : ∃ o1, T.1 1 = o1 := ⟨_, rfl⟩
        obtain ⟨o2, ho2⟩ : ∃ o2, T.1 0 = o2 := ⟨_, rfl⟩
        have hg := good (by unfold y_np; rw [decide_eq_true (by omega : 0 ≤ p.toInt), decide_eq_true (by omega : 0 ≤ a.toInt), decide_eq_true c3]; rfl)
        rw [show y_po T (nI 1) p (nI 0) a m = y_pp o1 o2 p a m by rw [hg, ← ho, ← ho2]]
        rw [ho] at h1
        rw [ho2] at h2
        refine And.intro (x_ix_nI (by omega) (by omega)) ?_
        rw [nI_clamp (by omega)]
        refine And.intro (x_ix_nI (by omega) (by omega)) ?_
        rw [nI_clamp (by omega)]
        refine Exists.intro _ (And.intro c_isMissing_1 (And.intro (And.intro (Nat.zero_le _) (Nat.zero_le _)) (fun q h' hpo => ?_)))
        obtain ⟨rfl, rfl⟩ := hpo
        cases o1 with
        | none =>
          have h1 : f 4 1 = -1 := h1
          rw [decide_eq_true h1]
          refine And.intro (fun _ => ?_) (fun c => absurd c (by decide))
          rw [show y_pp none o2 p a m = 2 from rfl, if_neg (by decide)]
          refine Exists.intro _ (And.intro c_refused (And.intro (And.intro (Nat.zero_le _) (Nat.zero_le _)) (fun q h' hpo => ?_)))
          obtain ⟨rfl, rfl⟩ := hpo
          refine And.intro ?_ ⟨Or.inl rfl, Nat.le_refl _, Nat.le_refl _⟩
          exact x_QT_0 hT
        | some c =>
          obtain ⟨a1, a2, a3, a4, a5⟩ := h1
          have a1 : f 4 1 = nI c.2 := a1
          have a2 : f 4 2 = nI c.1 := a2
          rw [decide_eq_false (by rw [a1]; exact x_nIm (by omega))]
          refine And.intro (fun c => absurd rfl c) (fun _ => ?_)
          refine Exists.intro _ (And.intro c_isMissing_0 (And.intro (And.intro (Nat.zero_le _) (Nat.zero_le _)) (fun q h' hpo => ?_)))
          obtain ⟨rfl, rfl⟩ := hpo
          cases o2 with
          | none =>
            have h2 : f 2 1 = -1 := h2
            rw [decide_eq_true h2]
            refine And.intro (fun c => absurd c (by decide)) (fun _ => ?_)
            rw [show y_pp (some c) none p a m = 2 from rfl, if_neg (by decide)]
            refine Exists.intro _ (And.intro c_refused (And.intro (And.intro (Nat.zero_le _) (Nat.zero_le _)) (fun q h' hpo => ?_)))
            obtain ⟨rfl, rfl⟩ := hpo
            refine And.intro ?_ ⟨Or.inl rfl, Nat.le_refl _, Nat.le_refl _⟩
            exact x_QT_0 hT
          | some e =>
            obtain ⟨b1, b2, b3, b4, b5⟩ := h2
            have b1 : f 2 1 = nI e.2 := b1
            have b2 : f 2 2 = nI e.1 := b2
            rw [decide_eq_false (by rw [b1]; exact x_nIm (by omega))]
            refine And.intro (fun _ => ?_) (fun c => absurd rfl c)
            have ePP : y_pp (some c) (some e) p a m = if c.1 = e.1 then (if p.toInt + m.toInt ≤ c.2 ∧ a.toInt + m.toInt ≤ e.2 then 0 else 3) else 8 := rfl
            refine And.intro (fun c4 => ?_) (fun c4 => ?_)
            · have c4 : f 4 2 = f 2 2 := c4
              have c4 : nI c.1 = nI e.1 := a2.symm.trans (c4.trans b2)
              rw [nI_eq (by omega) (by omega)] at c4
              rw [if_pos c4] at ePP
              refine And.intro (fun c5 => ?_) (fun c5 => ?_)
              · have c5 : 0 < lg_cmp (p.toInt64 + m.toInt64) (f 4 1).toInt64 := c5
                rw [x_lg_gt, Int64.lt_iff_toInt_lt, x_ladd, x_l2, a1, nI_toInt (by omega)] at c5
                rw [if_neg (by omega)] at ePP
                rw [ePP, if_neg (by decide)]
                refine Exists.intro _ (And.intro c_refused (And.intro (And.intro (Nat.zero_le _) (Nat.zero_le _)) (fun q h' hpo => ?_)))
                obtain ⟨rfl, rfl⟩ := hpo
                refine And.intro ?_ ⟨Or.inl rfl, Nat.le_refl _, Nat.le_refl _⟩
                exact x_QT_0 hT
              · have c5 : ¬ 0 < lg_cmp (p.toInt64 + m.toInt64) (f 4 1).toInt64 := c5
                rw [x_lg_gt, Int64.lt_iff_toInt_lt, x_ladd, x_l2, a1, nI_toInt (by omega)] at c5
                refine And.intro (fun c6 => ?_) (fun c6 => ?_)
                · have c6 : lg_cmp (a.toInt64 + m.toInt64) (f 2 1).toInt64 ≤ 0 := c6
                  rw [← Int32.not_lt, x_lg_gt, Int64.lt_iff_toInt_lt, x_ladd, x_l2, b1, nI_toInt (by omega)] at c6
                  rw [if_pos (by omega)] at ePP
                  rw [ePP, if_pos rfl]
                  refine And.intro (by show 0 ≤ p.toInt ∧ 0 ≤ a.toInt ∧ 0 ≤ m.toInt ∧ p.toInt + m.toInt ≤ 60 ∧ a.toInt + m.toInt ≤ 60; omega) ?_
                  refine Exists.intro _ (And.intro c_agreed (And.intro (And.intro (Nat.zero_le _) (Nat.zero_le _)) (fun q h' hpo => ?_)))
                  obtain ⟨rfl, rfl⟩ := hpo
                  refine And.intro ?_ ⟨Or.inr rfl, Nat.le_refl _, Nat.le_refl _⟩
                  obtain ⟨p, hp, rfl⟩ := nI_of (x := p) (by rw [x_lt, x_i0]; omega)
                  obtain ⟨a, ha, rfl⟩ := nI_of (x := a) (by rw [x_lt, x_i0]; omega)
                  obtain ⟨m, hm, rfl⟩ := nI_of (x := m) (by rw [x_lt, x_i0]; omega)
                  rw [nI_toInt hp, nI_toInt hm] at c5
                  rw [nI_toInt ha, nI_toInt hm] at c6
                  rw [show x_c (nI p) = p from nI_clamp hp, show x_c (nI a) = a from nI_clamp ha, show x_c (nI m) = m from nI_clamp hm, show x_c (nI 0) = 0 from rfl]
                  try rw [show x_c (nI 1) = 1 from rfl]
                  rw [ho2]
                  try rw [nI_clamp hp]
                  try rw [nI_clamp ha]
                  try rw [nI_clamp hm]
                  refine x_QT_S (x_TC_set (F := f) (G := va_up g 3 (va_cpy (g 5) (g 3) p a m)) (i := 0) (c := some e) (u := va_cpy (T.2 1) (T.2 0) p a m) hT (fun _ _ => rfl) (fun k hk => x_un hk) ⟨b1, b2, b3, b4, fun k hk => ?_⟩) (fun _ _ => rfl) (fun k hk => x_un (by omega))
                  show va_up g 3 (va_cpy (g 5) (g 3) p a m) 3 k = va_cpy (T.2 1) (T.2 0) p a m k
                  rw [x_us]
                  unfold va_cpy
                  by_cases hc : a ≤ k ∧ k < a + m
                  · rw [if_pos hc, if_pos hc]
                    exact a5 _ (by omega)
                  · rw [if_neg hc, if_neg hc]
                    exact b5 k hk
                · have c6 : ¬ lg_cmp (a.toInt64 + m.toInt64) (f 2 1).toInt64 ≤ 0 := c6
                  rw [← Int32.not_lt, x_lg_gt, Int64.lt_iff_toInt_lt, x_ladd, x_l2, b1, nI_toInt (by omega)] at c6
                  rw [if_neg (by omega)] at ePP
                  rw [ePP, if_neg (by decide)]
                  refine Exists.intro _ (And.intro c_refused (And.intro (And.intro (Nat.zero_le _) (Nat.zero_le _)) (fun q h' hpo => ?_)))
                  obtain ⟨rfl, rfl⟩ := hpo
                  refine And.intro ?_ ⟨Or.inl rfl, Nat.le_refl _, Nat.le_refl _⟩
                  exact x_QT_0 hT
            · have c4 : ¬ f 4 2 = f 2 2 := c4
              have c4 : ¬ nI c.1 = nI e.1 := fun q => c4 (a2.trans (q.trans b2.symm))
              rw [nI_eq (by omega) (by omega)] at c4
              rw [if_neg c4] at ePP
              rw [ePP, if_neg (by decide)]
              refine Exists.intro _ (And.intro c_refused (And.intro (And.intro (Nat.zero_le _) (Nat.zero_le _)) (fun q h' hpo => ?_)))
              obtain ⟨rfl, rfl⟩ := hpo
              refine And.intro ?_ ⟨Or.inl rfl, Nat.le_refl _, Nat.le_refl _⟩
              exact x_QT_0 hT
      · have c3 : ¬ 0 ≤ m := c3
        rw [x_le, x_i0] at c3
        rw [bad (by unfold y_np; rw [decide_eq_false c3, Bool.and_false, Bool.and_false]), if_neg (by decide)]
        refine Exists.intro _ (And.intro c_refused (And.intro (And.intro (Nat.zero_le _) (Nat.zero_le _)) (fun q h' hpo => ?_)))
        obtain ⟨rfl, rfl⟩ := hpo
        refine And.intro ?_ ⟨Or.inl rfl, Nat.le_refl _, Nat.le_refl _⟩
        exact x_QT_0 hT
theorem c_pour_1_1 {p a m : Int32} (hT : x_TC f g T) : x_Ct 103 (d + 2) [.ref 0, .int (nI 1), .int p, .int (nI 1), .int a, .int m] (f, g, x_HR r t, dm, n) (x_QT f g (x_HR r t) dm n (st_pour T (nI 1) p (nI 1) a m)) := by
  have h1 := hT 1 (by decide)
  have h2 := hT 1 (by decide)
  have bad : (y_np p && (y_np a && y_np m)) = false → y_po T (nI 1) p (nI 1) a m = 1 := by
    intro hb
    unfold y_po
    rw [hb]
    exact if_neg (by decide)
  have good : (y_np p && (y_np a && y_np m)) = true → y_po T (nI 1) p (nI 1) a m = y_pp (T.1 1) (T.1 1) p a m := by
    intro hb
    unfold y_po
    rw [hb]
    exact if_pos (by decide)
  unfold st_pour
  refine x_Ct_w (by decide) (Nat.le_of_ble_eq_true rfl) ok103 [] 12 ?_
  refine Exists.intro _ (And.intro c_isTray (And.intro (And.intro (Nat.zero_le _) (Nat.zero_le _)) (fun q h' hpo => ?_)))
  obtain ⟨rfl, rfl⟩ := hpo
  refine And.intro (fun c => absurd c (by decide)) (fun _ => ?_)
  refine Exists.intro _ (And.intro c_isTray (And.intro (And.intro (Nat.zero_le _) (Nat.zero_le _)) (fun q h' hpo => ?_)))
  obtain ⟨rfl, rfl⟩ := hpo
  refine And.intro (fun c => absurd c (by decide)) (fun _ => ?_)
  refine And.intro (fun c1 => ?_) (fun c1 => ?_)
  · have c1 : p < 0 := c1
    rw [x_lt, x_i0] at c1
    rw [bad (by unfold y_np; rw [decide_eq_false (by omega : ¬ 0 ≤ p.toInt), Bool.false_and]), if_neg (by decide)]
    refine Exists.intro _ (And.intro c_refused (And.intro (And.intro (Nat.zero_le _) (Nat.zero_le _)) (fun q h' hpo => ?_)))
    obtain ⟨rfl, rfl⟩ := hpo
    refine And.intro ?_ ⟨Or.inl rfl, Nat.le_refl _, Nat.le_refl _⟩
    exact x_QT_0 hT
  · have c1 : ¬ p < 0 := c1
    rw [x_lt, x_i0] at c1
    refine And.intro (fun c2 => ?_) (fun c2 => ?_)
    · have c2 : a < 0 := c2
      rw [x_lt, x_i0] at c2
      rw [bad (by unfold y_np; rw [decide_eq_false (by omega : ¬ 0 ≤ a.toInt), Bool.false_and, Bool.and_false]), if_neg (by decide)]
      refine Exists.intro _ (And.intro c_refused (And.intro (And.intro (Nat.zero_le _) (Nat.zero_le _)) (fun q h' hpo => ?_)))
      obtain ⟨rfl, rfl⟩ := hpo
      refine And.intro ?_ ⟨Or.inl rfl, Nat.le_refl _, Nat.le_refl _⟩
      exact x_QT_0 hT
    · have c2 : ¬ a < 0 := c2
      rw [x_lt, x_i0] at c2
      refine And.intro (fun c3 => ?_) (fun c3 => ?_)
      · have c3 : 0 ≤ m := c3
        rw [x_le, x_i0] at c3
        obtain ⟨o1, ho⟩ : ∃ o1, T.1 1 = o1 := ⟨_, rfl⟩
        obtain ⟨o2, ho2⟩ : ∃ o2, T.1 1 = o2 := ⟨_, rfl⟩
        have hg := good (by unfold y_np; rw [decide_eq_true (by omega : 0 ≤ p.toInt), decide_eq_true (by omega : 0 ≤ a.toInt), decide_eq_true c3]; rfl)
        rw [show y_po T (nI 1) p (nI 1) a m = y_pp o1 o2 p a m by rw [hg, ← ho, ← ho2]]
        rw [ho] at h1
        rw [ho2] at h2
        refine And.intro (x_ix_nI (by omega) (by omega)) ?_
        rw [nI_clamp (by omega)]
        refine And.intro (x_ix_nI (by omega) (by omega)) ?_
        rw [nI_clamp (by omega)]
        refine Exists.intro _ (And.intro c_isMissing_1 (And.intro (And.intro (Nat.zero_le _) (Nat.zero_le _)) (fun q h' hpo => ?_)))
        obtain ⟨rfl, rfl⟩ := hpo
        cases o1 with
        | none =>
          have h1 : f 4 1 = -1 := h1
          rw [decide_eq_true h1]
          refine And.intro (fun _ => ?_) (fun c => absurd c (by decide))
          rw [show y_pp none o2 p a m = 2 from rfl, if_neg (by decide)]
          refine Exists.intro _ (And.intro c_refused (And.intro (And.intro (Nat.zero_le _) (Nat.zero_le _)) (fun q h' hpo => ?_)))
          obtain ⟨rfl, rfl⟩ := hpo
          refine And.intro ?_ ⟨Or.inl rfl, Nat.le_refl _, Nat.le_refl _⟩
          exact x_QT_0 hT
        | some c =>
          obtain ⟨a1, a2, a3, a4, a5⟩ := h1
          have a1 : f 4 1 = nI c.2 := a1
          have a2 : f 4 2 = nI c.1 := a2
          rw [decide_eq_false (by rw [a1]; exact x_nIm (by omega))]
          refine And.intro (fun c => absurd rfl c) (fun _ => ?_)
          refine Exists.intro _ (And.intro c_isMissing_1 (And.intro (And.intro (Nat.zero_le _) (Nat.zero_le _)) (fun q h' hpo => ?_)))
          obtain ⟨rfl, rfl⟩ := hpo
          cases o2 with
          | none =>
            have h2 : f 4 1 = -1 := h2
            rw [decide_eq_true h2]
            refine And.intro (fun c => absurd c (by decide)) (fun _ => ?_)
            rw [show y_pp (some c) none p a m = 2 from rfl, if_neg (by decide)]
            refine Exists.intro _ (And.intro c_refused (And.intro (And.intro (Nat.zero_le _) (Nat.zero_le _)) (fun q h' hpo => ?_)))
            obtain ⟨rfl, rfl⟩ := hpo
            refine And.intro ?_ ⟨Or.inl rfl, Nat.le_refl _, Nat.le_refl _⟩
            exact x_QT_0 hT
          | some e =>
            obtain ⟨b1, b2, b3, b4, b5⟩ := h2
            have b1 : f 4 1 = nI e.2 := b1
            have b2 : f 4 2 = nI e.1 := b2
            rw [decide_eq_false (by rw [b1]; exact x_nIm (by omega))]
            refine And.intro (fun _ => ?_) (fun c => absurd rfl c)
            have ePP : y_pp (some c) (some e) p a m = if c.1 = e.1 then (if p.toInt + m.toInt ≤ c.2 ∧ a.toInt + m.toInt ≤ e.2 then 0 else 3) else 8 := rfl
            refine And.intro (fun c4 => ?_) (fun c4 => ?_)
            · have c4 : f 4 2 = f 4 2 := c4
              have c4 : nI c.1 = nI e.1 := a2.symm.trans (c4.trans b2)
              rw [nI_eq (by omega) (by omega)] at c4
              rw [if_pos c4] at ePP
              refine And.intro (fun c5 => ?_) (fun c5 => ?_)
              · have c5 : 0 < lg_cmp (p.toInt64 + m.toInt64) (f 4 1).toInt64 := c5
                rw [x_lg_gt, Int64.lt_iff_toInt_lt, x_ladd, x_l2, a1, nI_toInt (by omega)] at c5
                rw [if_neg (by omega)] at ePP
                rw [ePP, if_neg (by decide)]
                refine Exists.intro _ (And.intro c_refused (And.intro (And.intro (Nat.zero_le _) (Nat.zero_le _)) (fun q h' hpo => ?_)))
                obtain ⟨rfl, rfl⟩ := hpo
                refine And.intro ?_ ⟨Or.inl rfl, Nat.le_refl _, Nat.le_refl _⟩
                exact x_QT_0 hT
              · have c5 : ¬ 0 < lg_cmp (p.toInt64 + m.toInt64) (f 4 1).toInt64 := c5
                rw [x_lg_gt, Int64.lt_iff_toInt_lt, x_ladd, x_l2, a1, nI_toInt (by omega)] at c5
                refine And.intro (fun c6 => ?_) (fun c6 => ?_)
                · have c6 : lg_cmp (a.toInt64 + m.toInt64) (f 4 1).toInt64 ≤ 0 := c6
                  rw [← Int32.not_lt, x_lg_gt, Int64.lt_iff_toInt_lt, x_ladd, x_l2, b1, nI_toInt (by omega)] at c6
                  rw [if_pos (by omega)] at ePP
                  rw [ePP, if_pos rfl]
                  refine And.intro (by show 0 ≤ p.toInt ∧ 0 ≤ a.toInt ∧ 0 ≤ m.toInt ∧ p.toInt + m.toInt ≤ 60 ∧ a.toInt + m.toInt ≤ 60; omega) ?_
                  refine Exists.intro _ (And.intro c_agreed (And.intro (And.intro (Nat.zero_le _) (Nat.zero_le _)) (fun q h' hpo => ?_)))
                  obtain ⟨rfl, rfl⟩ := hpo
                  refine And.intro ?_ ⟨Or.inr rfl, Nat.le_refl _, Nat.le_refl _⟩
                  obtain ⟨p, hp, rfl⟩ := nI_of (x := p) (by rw [x_lt, x_i0]; omega)
                  obtain ⟨a, ha, rfl⟩ := nI_of (x := a) (by rw [x_lt, x_i0]; omega)
                  obtain ⟨m, hm, rfl⟩ := nI_of (x := m) (by rw [x_lt, x_i0]; omega)
                  rw [nI_toInt hp, nI_toInt hm] at c5
                  rw [nI_toInt ha, nI_toInt hm] at c6
                  rw [show x_c (nI p) = p from nI_clamp hp, show x_c (nI a) = a from nI_clamp ha, show x_c (nI m) = m from nI_clamp hm, show x_c (nI 1) = 1 from rfl]
                  try rw [show x_c (nI 1) = 1 from rfl]
                  rw [ho2]
                  try rw [nI_clamp hp]
                  try rw [nI_clamp ha]
                  try rw [nI_clamp hm]
                  refine x_QT_S (x_TC_set (F := f) (G := va_up g 5 (va_cpy (g 5) (g 5) p a m)) (i := 1) (c := some e) (u := va_cpy (T.2 1) (T.2 1) p a m) hT (fun _ _ => rfl) (fun k hk => x_un hk) ⟨b1, b2, b3, b4, fun k hk => ?_⟩) (fun _ _ => rfl) (fun k hk => x_un (by omega))
                  show va_up g 5 (va_cpy (g 5) (g 5) p a m) 5 k = va_cpy (T.2 1) (T.2 1) p a m k
                  rw [x_us]
                  unfold va_cpy
                  by_cases hc : a ≤ k ∧ k < a + m
                  · rw [if_pos hc, if_pos hc]
                    exact a5 _ (by omega)
                  · rw [if_neg hc, if_neg hc]
                    exact b5 k hk
                · have c6 : ¬ lg_cmp (a.toInt64 + m.toInt64) (f 4 1).toInt64 ≤ 0 := c6
                  rw [← Int32.not_lt, x_lg_gt, Int64.lt_iff_toInt_lt, x_ladd, x_l2, b1, nI_toInt (by omega)] at c6
                  rw [if_neg (by omega)] at ePP
                  rw [ePP, if_neg (by decide)]
                  refine Exists.intro _ (And.intro c_refused (And.intro (And.intro (Nat.zero_le _) (Nat.zero_le _)) (fun q h' hpo => ?_)))
                  obtain ⟨rfl, rfl⟩ := hpo
                  refine And.intro ?_ ⟨Or.inl rfl, Nat.le_refl _, Nat.le_refl _⟩
                  exact x_QT_0 hT
            · have c4 : ¬ f 4 2 = f 4 2 := c4
              have c4 : ¬ nI c.1 = nI e.1 := fun q => c4 (a2.trans (q.trans b2.symm))
              rw [nI_eq (by omega) (by omega)] at c4
              rw [if_neg c4] at ePP
              rw [ePP, if_neg (by decide)]
              refine Exists.intro _ (And.intro c_refused (And.intro (And.intro (Nat.zero_le _) (Nat.zero_le _)) (fun q h' hpo => ?_)))
              obtain ⟨rfl, rfl⟩ := hpo
              refine And.intro ?_ ⟨Or.inl rfl, Nat.le_refl _, Nat.le_refl _⟩
              exact x_QT_0 hT
      · have c3 : ¬ 0 ≤ m := c3
        rw [x_le, x_i0] at c3
        rw [bad (by unfold y_np; rw [decide_eq_false c3, Bool.and_false, Bool.and_false]), if_neg (by decide)]
        refine Exists.intro _ (And.intro c_refused (And.intro (And.intro (Nat.zero_le _) (Nat.zero_le _)) (fun q h' hpo => ?_)))
        obtain ⟨rfl, rfl⟩ := hpo
        refine And.intro ?_ ⟨Or.inl rfl, Nat.le_refl _, Nat.le_refl _⟩
        exact x_QT_0 hT
theorem c_pour_1_2 {p a m : Int32} (hT : x_TC f g T) : x_Ct 103 (d + 2) [.ref 0, .int (nI 1), .int p, .int (nI 2), .int a, .int m] (f, g, x_HR r t, dm, n) (x_QT f g (x_HR r t) dm n (st_pour T (nI 1) p (nI 2) a m)) := by
  have h1 := hT 1 (by decide)
  have h2 := hT 2 (by decide)
  have bad : (y_np p && (y_np a && y_np m)) = false → y_po T (nI 1) p (nI 2) a m = 1 := by
    intro hb
    unfold y_po
    rw [hb]
    exact if_neg (by decide)
  have good : (y_np p && (y_np a && y_np m)) = true → y_po T (nI 1) p (nI 2) a m = y_pp (T.1 1) (T.1 2) p a m := by
    intro hb
    unfold y_po
    rw [hb]
    exact if_pos (by decide)
  unfold st_pour
  refine x_Ct_w (by decide) (Nat.le_of_ble_eq_true rfl) ok103 [] 12 ?_
  refine Exists.intro _ (And.intro c_isTray (And.intro (And.intro (Nat.zero_le _) (Nat.zero_le _)) (fun q h' hpo => ?_)))
  obtain ⟨rfl, rfl⟩ := hpo
  refine And.intro (fun c => absurd c (by decide)) (fun _ => ?_)
  refine Exists.intro _ (And.intro c_isTray (And.intro (And.intro (Nat.zero_le _) (Nat.zero_le _)) (fun q h' hpo => ?_)))
  obtain ⟨rfl, rfl⟩ := hpo
  refine And.intro (fun c => absurd c (by decide)) (fun _ => ?_)
  refine And.intro (fun c1 => ?_) (fun c1 => ?_)
  · have c1 : p < 0 := c1
    rw [x_lt, x_i0] at c1
    rw [bad (by unfold y_np; rw [decide_eq_false (by omega : ¬ 0 ≤ p.toInt), Bool.false_and]), if_neg (by decide)]
    refine Exists.intro _ (And.intro c_refused (And.intro (And.intro (Nat.zero_le _) (Nat.zero_le _)) (fun q h' hpo => ?_)))
    obtain ⟨rfl, rfl⟩ := hpo
    refine And.intro ?_ ⟨Or.inl rfl, Nat.le_refl _, Nat.le_refl _⟩
    exact x_QT_0 hT
  · have c1 : ¬ p < 0 := c1
    rw [x_lt, x_i0] at c1
    refine And.intro (fun c2 => ?_) (fun c2 => ?_)
    · have c2 : a < 0 := c2
      rw [x_lt, x_i0] at c2
      rw [bad (by unfold y_np; rw [decide_eq_false (by omega : ¬ 0 ≤ a.toInt), Bool.false_and, Bool.and_false]), if_neg (by decide)]
      refine Exists.intro _ (And.intro c_refused (And.intro (And.intro (Nat.zero_le _) (Nat.zero_le _)) (fun q h' hpo => ?_)))
      obtain ⟨rfl, rfl⟩ := hpo
      refine And.intro ?_ ⟨Or.inl rfl, Nat.le_refl _, Nat.le_refl _⟩
      exact x_QT_0 hT
    · have c2 : ¬ a < 0 := c2
      rw [x_lt, x_i0] at c2
      refine And.intro (fun c3 => ?_) (fun c3 => ?_)
      · have c3 : 0 ≤ m := c3
        rw [x_le, x_i0] at c3
        obtain ⟨o1, ho⟩ : ∃ o1, T.1 1 = o1 := ⟨_, rfl⟩
        obtain ⟨o2, ho2⟩ : ∃ o2, T.1 2 = o2 := ⟨_, rfl⟩
        have hg := good (by unfold y_np; rw [decide_eq_true (by omega : 0 ≤ p.toInt), decide_eq_true (by omega : 0 ≤ a.toInt), decide_eq_true c3]; rfl)
        rw [show y_po T (nI 1) p (nI 2) a m = y_pp o1 o2 p a m by rw [hg, ← ho, ← ho2]]
        rw [ho] at h1
        rw [ho2] at h2
        refine And.intro (x_ix_nI (by omega) (by omega)) ?_
        rw [nI_clamp (by omega)]
        refine And.intro (x_ix_nI (by omega) (by omega)) ?_
        rw [nI_clamp (by omega)]
        refine Exists.intro _ (And.intro c_isMissing_1 (And.intro (And.intro (Nat.zero_le _) (Nat.zero_le _)) (fun q h' hpo => ?_)))
        obtain ⟨rfl, rfl⟩ := hpo
        cases o1 with
        | none =>
          have h1 : f 4 1 = -1 := h1
          rw [decide_eq_true h1]
          refine And.intro (fun _ => ?_) (fun c => absurd c (by decide))
          rw [show y_pp none o2 p a m = 2 from rfl, if_neg (by decide)]
          refine Exists.intro _ (And.intro c_refused (And.intro (And.intro (Nat.zero_le _) (Nat.zero_le _)) (fun q h' hpo => ?_)))
          obtain ⟨rfl, rfl⟩ := hpo
          refine And.intro ?_ ⟨Or.inl rfl, Nat.le_refl _, Nat.le_refl _⟩
          exact x_QT_0 hT
        | some c =>
          obtain ⟨a1, a2, a3, a4, a5⟩ := h1
          have a1 : f 4 1 = nI c.2 := a1
          have a2 : f 4 2 = nI c.1 := a2
          rw [decide_eq_false (by rw [a1]; exact x_nIm (by omega))]
          refine And.intro (fun c => absurd rfl c) (fun _ => ?_)
          refine Exists.intro _ (And.intro c_isMissing_2 (And.intro (And.intro (Nat.zero_le _) (Nat.zero_le _)) (fun q h' hpo => ?_)))
          obtain ⟨rfl, rfl⟩ := hpo
          cases o2 with
          | none =>
            have h2 : f 6 1 = -1 := h2
            rw [decide_eq_true h2]
            refine And.intro (fun c => absurd c (by decide)) (fun _ => ?_)
            rw [show y_pp (some c) none p a m = 2 from rfl, if_neg (by decide)]
            refine Exists.intro _ (And.intro c_refused (And.intro (And.intro (Nat.zero_le _) (Nat.zero_le _)) (fun q h' hpo => ?_)))
            obtain ⟨rfl, rfl⟩ := hpo
            refine And.intro ?_ ⟨Or.inl rfl, Nat.le_refl _, Nat.le_refl _⟩
            exact x_QT_0 hT
          | some e =>
            obtain ⟨b1, b2, b3, b4, b5⟩ := h2
            have b1 : f 6 1 = nI e.2 := b1
            have b2 : f 6 2 = nI e.1 := b2
            rw [decide_eq_false (by rw [b1]; exact x_nIm (by omega))]
            refine And.intro (fun _ => ?_) (fun c => absurd rfl c)
            have ePP : y_pp (some c) (some e) p a m = if c.1 = e.1 then (if p.toInt + m.toInt ≤ c.2 ∧ a.toInt + m.toInt ≤ e.2 then 0 else 3) else 8 := rfl
            refine And.intro (fun c4 => ?_) (fun c4 => ?_)
            · have c4 : f 4 2 = f 6 2 := c4
              have c4 : nI c.1 = nI e.1 := a2.symm.trans (c4.trans b2)
              rw [nI_eq (by omega) (by omega)] at c4
              rw [if_pos c4] at ePP
              refine And.intro (fun c5 => ?_) (fun c5 => ?_)
              · have c5 : 0 < lg_cmp (p.toInt64 + m.toInt64) (f 4 1).toInt64 := c5
                rw [x_lg_gt, Int64.lt_iff_toInt_lt, x_ladd, x_l2, a1, nI_toInt (by omega)] at c5
                rw [if_neg (by omega)] at ePP
                rw [ePP, if_neg (by decide)]
                refine Exists.intro _ (And.intro c_refused (And.intro (And.intro (Nat.zero_le _) (Nat.zero_le _)) (fun q h' hpo => ?_)))
                obtain ⟨rfl, rfl⟩ := hpo
                refine And.intro ?_ ⟨Or.inl rfl, Nat.le_refl _, Nat.le_refl _⟩
                exact x_QT_0 hT
              · have c5 : ¬ 0 < lg_cmp (p.toInt64 + m.toInt64) (f 4 1).toInt64 := c5
                rw [x_lg_gt, Int64.lt_iff_toInt_lt, x_ladd, x_l2, a1, nI_toInt (by omega)] at c5
                refine And.intro (fun c6 => ?_) (fun c6 => ?_)
                · have c6 : lg_cmp (a.toInt64 + m.toInt64) (f 6 1).toInt64 ≤ 0 := c6
                  rw [← Int32.not_lt, x_lg_gt, Int64.lt_iff_toInt_lt, x_ladd, x_l2, b1, nI_toInt (by omega)] at c6
                  rw [if_pos (by omega)] at ePP
                  rw [ePP, if_pos rfl]
                  refine And.intro (by show 0 ≤ p.toInt ∧ 0 ≤ a.toInt ∧ 0 ≤ m.toInt ∧ p.toInt + m.toInt ≤ 60 ∧ a.toInt + m.toInt ≤ 60; omega) ?_
                  refine Exists.intro _ (And.intro c_agreed (And.intro (And.intro (Nat.zero_le _) (Nat.zero_le _)) (fun q h' hpo => ?_)))
                  obtain ⟨rfl, rfl⟩ := hpo
                  refine And.intro ?_ ⟨Or.inr rfl, Nat.le_refl _, Nat.le_refl _⟩
                  obtain ⟨p, hp, rfl⟩ := nI_of (x := p) (by rw [x_lt, x_i0]; omega)
                  obtain ⟨a, ha, rfl⟩ := nI_of (x := a) (by rw [x_lt, x_i0]; omega)
                  obtain ⟨m, hm, rfl⟩ := nI_of (x := m) (by rw [x_lt, x_i0]; omega)
                  rw [nI_toInt hp, nI_toInt hm] at c5
                  rw [nI_toInt ha, nI_toInt hm] at c6
                  rw [show x_c (nI p) = p from nI_clamp hp, show x_c (nI a) = a from nI_clamp ha, show x_c (nI m) = m from nI_clamp hm, show x_c (nI 2) = 2 from rfl]
                  try rw [show x_c (nI 1) = 1 from rfl]
                  rw [ho2]
                  try rw [nI_clamp hp]
                  try rw [nI_clamp ha]
                  try rw [nI_clamp hm]
                  refine x_QT_S (x_TC_set (F := f) (G := va_up g 7 (va_cpy (g 5) (g 7) p a m)) (i := 2) (c := some e) (u := va_cpy (T.2 1) (T.2 2) p a m) hT (fun _ _ => rfl) (fun k hk => x_un hk) ⟨b1, b2, b3, b4, fun k hk => ?_⟩) (fun _ _ => rfl) (fun k hk => x_un (by omega))
                  show va_up g 7 (va_cpy (g 5) (g 7) p a m) 7 k = va_cpy (T.2 1) (T.2 2) p a m k
                  rw [x_us]
                  unfold va_cpy
                  by_cases hc : a ≤ k ∧ k < a + m
                  · rw [if_pos hc, if_pos hc]
                    exact a5 _ (by omega)
                  · rw [if_neg hc, if_neg hc]
                    exact b5 k hk
                · have c6 : ¬ lg_cmp (a.toInt64 + m.toInt64) (f 6 1).toInt64 ≤ 0 := c6
                  rw [← Int32.not_lt, x_lg_gt, Int64.lt_iff_toInt_lt, x_ladd, x_l2, b1, nI_toInt (by omega)] at c6
                  rw [if_neg (by omega)] at ePP
                  rw [ePP, if_neg (by decide)]
                  refine Exists.intro _ (And.intro c_refused (And.intro (And.intro (Nat.zero_le _) (Nat.zero_le _)) (fun q h' hpo => ?_)))
                  obtain ⟨rfl, rfl⟩ := hpo
                  refine And.intro ?_ ⟨Or.inl rfl, Nat.le_refl _, Nat.le_refl _⟩
                  exact x_QT_0 hT
            · have c4 : ¬ f 4 2 = f 6 2 := c4
              have c4 : ¬ nI c.1 = nI e.1 := fun q => c4 (a2.trans (q.trans b2.symm))
              rw [nI_eq (by omega) (by omega)] at c4
              rw [if_neg c4] at ePP
              rw [ePP, if_neg (by decide)]
              refine Exists.intro _ (And.intro c_refused (And.intro (And.intro (Nat.zero_le _) (Nat.zero_le _)) (fun q h' hpo => ?_)))
              obtain ⟨rfl, rfl⟩ := hpo
              refine And.intro ?_ ⟨Or.inl rfl, Nat.le_refl _, Nat.le_refl _⟩
              exact x_QT_0 hT
      · have c3 : ¬ 0 ≤ m := c3
        rw [x_le, x_i0] at c3
        rw [bad (by unfold y_np; rw [decide_eq_false c3, Bool.and_false, Bool.and_false]), if_neg (by decide)]
        refine Exists.intro _ (And.intro c_refused (And.intro (And.intro (Nat.zero_le _) (Nat.zero_le _)) (fun q h' hpo => ?_)))
        obtain ⟨rfl, rfl⟩ := hpo
        refine And.intro ?_ ⟨Or.inl rfl, Nat.le_refl _, Nat.le_refl _⟩
        exact x_QT_0 hT
theorem c_pour_1_3 {p a m : Int32} (hT : x_TC f g T) : x_Ct 103 (d + 2) [.ref 0, .int (nI 1), .int p, .int (nI 3), .int a, .int m] (f, g, x_HR r t, dm, n) (x_QT f g (x_HR r t) dm n (st_pour T (nI 1) p (nI 3) a m)) := by
  have h1 := hT 1 (by decide)
  have h2 := hT 3 (by decide)
  have bad : (y_np p && (y_np a && y_np m)) = false → y_po T (nI 1) p (nI 3) a m = 1 := by
    intro hb
    unfold y_po
    rw [hb]
    exact if_neg (by decide)
  have good : (y_np p && (y_np a && y_np m)) = true → y_po T (nI 1) p (nI 3) a m = y_pp (T.1 1) (T.1 3) p a m := by
    intro hb
    unfold y_po
    rw [hb]
    exact if_pos (by decide)
  unfold st_pour
  refine x_Ct_w (by decide) (Nat.le_of_ble_eq_true rfl) ok103 [] 12 ?_
  refine Exists.intro _ (And.intro c_isTray (And.intro (And.intro (Nat.zero_le _) (Nat.zero_le _)) (fun q h' hpo => ?_)))
  obtain ⟨rfl, rfl⟩ := hpo
  refine And.intro (fun c => absurd c (by decide)) (fun _ => ?_)
  refine Exists.intro _ (And.intro c_isTray (And.intro (And.intro (Nat.zero_le _) (Nat.zero_le _)) (fun q h' hpo => ?_)))
  obtain ⟨rfl, rfl⟩ := hpo
  refine And.intro (fun c => absurd c (by decide)) (fun _ => ?_)
  refine And.intro (fun c1 => ?_) (fun c1 => ?_)
  · have c1 : p < 0 := c1
    rw [x_lt, x_i0] at c1
    rw [bad (by unfold y_np; rw [decide_eq_false (by omega : ¬ 0 ≤ p.toInt), Bool.false_and]), if_neg (by decide)]
    refine Exists.intro _ (And.intro c_refused (And.intro (And.intro (Nat.zero_le _) (Nat.zero_le _)) (fun q h' hpo => ?_)))
    obtain ⟨rfl, rfl⟩ := hpo
    refine And.intro ?_ ⟨Or.inl rfl, Nat.le_refl _, Nat.le_refl _⟩
    exact x_QT_0 hT
  · have c1 : ¬ p < 0 := c1
    rw [x_lt, x_i0] at c1
    refine And.intro (fun c2 => ?_) (fun c2 => ?_)
    · have c2 : a < 0 := c2
      rw [x_lt, x_i0] at c2
      rw [bad (by unfold y_np; rw [decide_eq_false (by omega : ¬ 0 ≤ a.toInt), Bool.false_and, Bool.and_false]), if_neg (by decide)]
      refine Exists.intro _ (And.intro c_refused (And.intro (And.intro (Nat.zero_le _) (Nat.zero_le _)) (fun q h' hpo => ?_)))
      obtain ⟨rfl, rfl⟩ := hpo
      refine And.intro ?_ ⟨Or.inl rfl, Nat.le_refl _, Nat.le_refl _⟩
      exact x_QT_0 hT
    · have c2 : ¬ a < 0 := c2
      rw [x_lt, x_i0] at c2
      refine And.intro (fun c3 => ?_) (fun c3 => ?_)
      · have c3 : 0 ≤ m := c3
        rw [x_le, x_i0] at c3
        obtain ⟨o1, ho⟩ : ∃ o1, T.1 1 = o1 := ⟨_, rfl⟩
        obtain ⟨o2, ho2⟩ : ∃ o2, T.1 3 = o2 := ⟨_, rfl⟩
        have hg := good (by unfold y_np; rw [decide_eq_true (by omega : 0 ≤ p.toInt), decide_eq_true (by omega : 0 ≤ a.toInt), decide_eq_true c3]; rfl)
        rw [show y_po T (nI 1) p (nI 3) a m = y_pp o1 o2 p a m by rw [hg, ← ho, ← ho2]]
        rw [ho] at h1
        rw [ho2] at h2
        refine And.intro (x_ix_nI (by omega) (by omega)) ?_
        rw [nI_clamp (by omega)]
        refine And.intro (x_ix_nI (by omega) (by omega)) ?_
        rw [nI_clamp (by omega)]
        refine Exists.intro _ (And.intro c_isMissing_1 (And.intro (And.intro (Nat.zero_le _) (Nat.zero_le _)) (fun q h' hpo => ?_)))
        obtain ⟨rfl, rfl⟩ := hpo
        cases o1 with
        | none =>
          have h1 : f 4 1 = -1 := h1
          rw [decide_eq_true h1]
          refine And.intro (fun _ => ?_) (fun c => absurd c (by decide))
          rw [show y_pp none o2 p a m = 2 from rfl, if_neg (by decide)]
          refine Exists.intro _ (And.intro c_refused (And.intro (And.intro (Nat.zero_le _) (Nat.zero_le _)) (fun q h' hpo => ?_)))
          obtain ⟨rfl, rfl⟩ := hpo
          refine And.intro ?_ ⟨Or.inl rfl, Nat.le_refl _, Nat.le_refl _⟩
          exact x_QT_0 hT
        | some c =>
          obtain ⟨a1, a2, a3, a4, a5⟩ := h1
          have a1 : f 4 1 = nI c.2 := a1
          have a2 : f 4 2 = nI c.1 := a2
          rw [decide_eq_false (by rw [a1]; exact x_nIm (by omega))]
          refine And.intro (fun c => absurd rfl c) (fun _ => ?_)
          refine Exists.intro _ (And.intro c_isMissing_3 (And.intro (And.intro (Nat.zero_le _) (Nat.zero_le _)) (fun q h' hpo => ?_)))
          obtain ⟨rfl, rfl⟩ := hpo
          cases o2 with
          | none =>
            have h2 : f 8 1 = -1 := h2
            rw [decide_eq_true h2]
            refine And.intro (fun c => absurd c (by decide)) (fun _ => ?_)
            rw [show y_pp (some c) none p a m = 2 from rfl, if_neg (by decide)]
            refine Exists.intro _ (And.intro c_refused (And.intro (And.intro (Nat.zero_le _) (Nat.zero_le _)) (fun q h' hpo => ?_)))
            obtain ⟨rfl, rfl⟩ := hpo
            refine And.intro ?_ ⟨Or.inl rfl, Nat.le_refl _, Nat.le_refl _⟩
            exact x_QT_0 hT
          | some e =>
            obtain ⟨b1, b2, b3, b4, b5⟩ := h2
            have b1 : f 8 1 = nI e.2 := b1
            have b2 : f 8 2 = nI e.1 := b2
            rw [decide_eq_false (by rw [b1]; exact x_nIm (by omega))]
            refine And.intro (fun _ => ?_) (fun c => absurd rfl c)
            have ePP : y_pp (some c) (some e) p a m = if c.1 = e.1 then (if p.toInt + m.toInt ≤ c.2 ∧ a.toInt + m.toInt ≤ e.2 then 0 else 3) else 8 := rfl
            refine And.intro (fun c4 => ?_) (fun c4 => ?_)
            · have c4 : f 4 2 = f 8 2 := c4
              have c4 : nI c.1 = nI e.1 := a2.symm.trans (c4.trans b2)
              rw [nI_eq (by omega) (by omega)] at c4
              rw [if_pos c4] at ePP
              refine And.intro (fun c5 => ?_) (fun c5 => ?_)
              · have c5 : 0 < lg_cmp (p.toInt64 + m.toInt64) (f 4 1).toInt64 := c5
                rw [x_lg_gt, Int64.lt_iff_toInt_lt, x_ladd, x_l2, a1, nI_toInt (by omega)] at c5
                rw [if_neg (by omega)] at ePP
                rw [ePP, if_neg (by decide)]
                refine Exists.intro _ (And.intro c_refused (And.intro (And.intro (Nat.zero_le _) (Nat.zero_le _)) (fun q h' hpo => ?_)))
                obtain ⟨rfl, rfl⟩ := hpo
                refine And.intro ?_ ⟨Or.inl rfl, Nat.le_refl _, Nat.le_refl _⟩
                exact x_QT_0 hT
              · have c5 : ¬ 0 < lg_cmp (p.toInt64 + m.toInt64) (f 4 1).toInt64 := c5
                rw [x_lg_gt, Int64.lt_iff_toInt_lt, x_ladd, x_l2, a1, nI_toInt (by omega)] at c5
                refine And.intro (fun c6 => ?_) (fun c6 => ?_)
                · have c6 : lg_cmp (a.toInt64 + m.toInt64) (f 8 1).toInt64 ≤ 0 := c6
                  rw [← Int32.not_lt, x_lg_gt, Int64.lt_iff_toInt_lt, x_ladd, x_l2, b1, nI_toInt (by omega)] at c6
                  rw [if_pos (by omega)] at ePP
                  rw [ePP, if_pos rfl]
                  refine And.intro (by show 0 ≤ p.toInt ∧ 0 ≤ a.toInt ∧ 0 ≤ m.toInt ∧ p.toInt + m.toInt ≤ 60 ∧ a.toInt + m.toInt ≤ 60; omega) ?_
                  refine Exists.intro _ (And.intro c_agreed (And.intro (And.intro (Nat.zero_le _) (Nat.zero_le _)) (fun q h' hpo => ?_)))
                  obtain ⟨rfl, rfl⟩ := hpo
                  refine And.intro ?_ ⟨Or.inr rfl, Nat.le_refl _, Nat.le_refl _⟩
                  obtain ⟨p, hp, rfl⟩ := nI_of (x := p) (by rw [x_lt, x_i0]; omega)
                  obtain ⟨a, ha, rfl⟩ := nI_of (x := a) (by rw [x_lt, x_i0]; omega)
                  obtain ⟨m, hm, rfl⟩ := nI_of (x := m) (by rw [x_lt, x_i0]; omega)
                  rw [nI_toInt hp, nI_toInt hm] at c5
                  rw [nI_toInt ha, nI_toInt hm] at c6
                  rw [show x_c (nI p) = p from nI_clamp hp, show x_c (nI a) = a from nI_clamp ha, show x_c (nI m) = m from nI_clamp hm, show x_c (nI 3) = 3 from rfl]
                  try rw [show x_c (nI 1) = 1 from rfl]
                  rw [ho2]
                  try rw [nI_clamp hp]
                  try rw [nI_clamp ha]
                  try rw [nI_clamp hm]
                  refine x_QT_S (x_TC_set (F := f) (G := va_up g 9 (va_cpy (g 5) (g 9) p a m)) (i := 3) (c := some e) (u := va_cpy (T.2 1) (T.2 3) p a m) hT (fun _ _ => rfl) (fun k hk => x_un hk) ⟨b1, b2, b3, b4, fun k hk => ?_⟩) (fun _ _ => rfl) (fun k hk => x_un (by omega))
                  show va_up g 9 (va_cpy (g 5) (g 9) p a m) 9 k = va_cpy (T.2 1) (T.2 3) p a m k
                  rw [x_us]
                  unfold va_cpy
                  by_cases hc : a ≤ k ∧ k < a + m
                  · rw [if_pos hc, if_pos hc]
                    exact a5 _ (by omega)
                  · rw [if_neg hc, if_neg hc]
                    exact b5 k hk
                · have c6 : ¬ lg_cmp (a.toInt64 + m.toInt64) (f 8 1).toInt64 ≤ 0 := c6
                  rw [← Int32.not_lt, x_lg_gt, Int64.lt_iff_toInt_lt, x_ladd, x_l2, b1, nI_toInt (by omega)] at c6
                  rw [if_neg (by omega)] at ePP
                  rw [ePP, if_neg (by decide)]
                  refine Exists.intro _ (And.intro c_refused (And.intro (And.intro (Nat.zero_le _) (Nat.zero_le _)) (fun q h' hpo => ?_)))
                  obtain ⟨rfl, rfl⟩ := hpo
                  refine And.intro ?_ ⟨Or.inl rfl, Nat.le_refl _, Nat.le_refl _⟩
                  exact x_QT_0 hT
            · have c4 : ¬ f 4 2 = f 8 2 := c4
              have c4 : ¬ nI c.1 = nI e.1 := fun q => c4 (a2.trans (q.trans b2.symm))
              rw [nI_eq (by omega) (by omega)] at c4
              rw [if_neg c4] at ePP
              rw [ePP, if_neg (by decide)]
              refine Exists.intro _ (And.intro c_refused (And.intro (And.intro (Nat.zero_le _) (Nat.zero_le _)) (fun q h' hpo => ?_)))
              obtain ⟨rfl, rfl⟩ := hpo
              refine And.intro ?_ ⟨Or.inl rfl, Nat.le_refl _, Nat.le_refl _⟩
              exact x_QT_0 hT
      · have c3 : ¬ 0 ≤ m := c3
        rw [x_le, x_i0] at c3
        rw [bad (by unfold y_np; rw [decide_eq_false c3, Bool.and_false, Bool.and_false]), if_neg (by decide)]
        refine Exists.intro _ (And.intro c_refused (And.intro (And.intro (Nat.zero_le _) (Nat.zero_le _)) (fun q h' hpo => ?_)))
        obtain ⟨rfl, rfl⟩ := hpo
        refine And.intro ?_ ⟨Or.inl rfl, Nat.le_refl _, Nat.le_refl _⟩
        exact x_QT_0 hT
theorem c_pour_2_0 {p a m : Int32} (hT : x_TC f g T) : x_Ct 103 (d + 2) [.ref 0, .int (nI 2), .int p, .int (nI 0), .int a, .int m] (f, g, x_HR r t, dm, n) (x_QT f g (x_HR r t) dm n (st_pour T (nI 2) p (nI 0) a m)) := by
  have h1 := hT 2 (by decide)
  have h2 := hT 0 (by decide)
  have bad : (y_np p && (y_np a && y_np m)) = false → y_po T (nI 2) p (nI 0) a m = 1 := by
    intro hb
    unfold y_po
    rw [hb]
    exact if_neg (by decide)
  have good : (y_np p && (y_np a && y_np m)) = true → y_po T (nI 2) p (nI 0) a m = y_pp (T.1 2) (T.1 0) p a m := by
    intro hb
    unfold y_po
    rw [hb]
    exact if_pos (by decide)
  unfold st_pour
  refine x_Ct_w (by decide) (Nat.le_of_ble_eq_true rfl) ok103 [] 12 ?_
  refine Exists.intro _ (And.intro c_isTray (And.intro (And.intro (Nat.zero_le _) (Nat.zero_le _)) (fun q h' hpo => ?_)))
  obtain ⟨rfl, rfl⟩ := hpo
  refine And.intro (fun c => absurd c (by decide)) (fun _ => ?_)
  refine Exists.intro _ (And.intro c_isTray (And.intro (And.intro (Nat.zero_le _) (Nat.zero_le _)) (fun q h' hpo => ?_)))
  obtain ⟨rfl, rfl⟩ := hpo
  refine And.intro (fun c => absurd c (by decide)) (fun _ => ?_)
  refine And.intro (fun c1 => ?_) (fun c1 => ?_)
  · have c1 : p < 0 := c1
    rw [x_lt, x_i0] at c1
    rw [bad (by unfold y_np; rw [decide_eq_false (by omega : ¬ 0 ≤ p.toInt), Bool.false_and]), if_neg (by decide)]
    refine Exists.intro _ (And.intro c_refused (And.intro (And.intro (Nat.zero_le _) (Nat.zero_le _)) (fun q h' hpo => ?_)))
    obtain ⟨rfl, rfl⟩ := hpo
    refine And.intro ?_ ⟨Or.inl rfl, Nat.le_refl _, Nat.le_refl _⟩
    exact x_QT_0 hT
  · have c1 : ¬ p < 0 := c1
    rw [x_lt, x_i0] at c1
    refine And.intro (fun c2 => ?_) (fun c2 => ?_)
    · have c2 : a < 0 := c2
      rw [x_lt, x_i0] at c2
      rw [bad (by unfold y_np; rw [decide_eq_false (by omega : ¬ 0 ≤ a.toInt), Bool.false_and, Bool.and_false]), if_neg (by decide)]
      refine Exists.intro _ (And.intro c_refused (And.intro (And.intro (Nat.zero_le _) (Nat.zero_le _)) (fun q h' hpo => ?_)))
      obtain ⟨rfl, rfl⟩ := hpo
      refine And.intro ?_ ⟨Or.inl rfl, Nat.le_refl _, Nat.le_refl _⟩
      exact x_QT_0 hT
    · have c2 : ¬ a < 0 := c2
      rw [x_lt, x_i0] at c2
      refine And.intro (fun c3 => ?_) (fun c3 => ?_)
      · have c3 : 0 ≤ m := c3
        rw [x_le, x_i0] at c3
        obtain ⟨o1, ho⟩ : ∃ o1, T.1 2 = o1 := ⟨_, rfl⟩
        obtain ⟨o2, ho2⟩ : ∃ o2, T.1 0 = o2 := ⟨_, rfl⟩
        have hg := good (by unfold y_np; rw [decide_eq_true (by omega : 0 ≤ p.toInt), decide_eq_true (by omega : 0 ≤ a.toInt), decide_eq_true c3]; rfl)
        rw [show y_po T (nI 2) p (nI 0) a m = y_pp o1 o2 p a m by rw [hg, ← ho, ← ho2]]
        rw [ho] at h1
        rw [ho2] at h2
        refine And.intro (x_ix_nI (by omega) (by omega)) ?_
        rw [nI_clamp (by omega)]
        refine And.intro (x_ix_nI (by omega) (by omega)) ?_
        rw [nI_clamp (by omega)]
        refine Exists.intro _ (And.intro c_isMissing_2 (And.intro (And.intro (Nat.zero_le _) (Nat.zero_le _)) (fun q h' hpo => ?_)))
        obtain ⟨rfl, rfl⟩ := hpo
        cases o1 with
        | none =>
          have h1 : f 6 1 = -1 := h1
          rw [decide_eq_true h1]
          refine And.intro (fun _ => ?_) (fun c => absurd c (by decide))
          rw [show y_pp none o2 p a m = 2 from rfl, if_neg (by decide)]
          refine Exists.intro _ (And.intro c_refused (And.intro (And.intro (Nat.zero_le _) (Nat.zero_le _)) (fun q h' hpo => ?_)))
          obtain ⟨rfl, rfl⟩ := hpo
          refine And.intro ?_ ⟨Or.inl rfl, Nat.le_refl _, Nat.le_refl _⟩
          exact x_QT_0 hT
        | some c =>
          obtain ⟨a1, a2, a3, a4, a5⟩ := h1
          have a1 : f 6 1 = nI c.2 := a1
          have a2 : f 6 2 = nI c.1 := a2
          rw [decide_eq_false (by rw [a1]; exact x_nIm (by omega))]
          refine And.intro (fun c => absurd rfl c) (fun _ => ?_)
          refine Exists.intro _ (And.intro c_isMissing_0 (And.intro (And.intro (Nat.zero_le _) (Nat.zero_le _)) (fun q h' hpo => ?_)))
          obtain ⟨rfl, rfl⟩ := hpo
          cases o2 with
          | none =>
            have h2 : f 2 1 = -1 := h2
            rw [decide_eq_true h2]
            refine And.intro (fun c => absurd c (by decide)) (fun _ => ?_)
            rw [show y_pp (some c) none p a m = 2 from rfl, if_neg (by decide)]
            refine Exists.intro _ (And.intro c_refused (And.intro (And.intro (Nat.zero_le _) (Nat.zero_le _)) (fun q h' hpo => ?_)))
            obtain ⟨rfl, rfl⟩ := hpo
            refine And.intro ?_ ⟨Or.inl rfl, Nat.le_refl _, Nat.le_refl _⟩
            exact x_QT_0 hT
          | some e =>
            obtain ⟨b1, b2, b3, b4, b5⟩ := h2
            have b1 : f 2 1 = nI e.2 := b1
            have b2 : f 2 2 = nI e.1 := b2
            rw [decide_eq_false (by rw [b1]; exact x_nIm (by omega))]
            refine And.intro (fun _ => ?_) (fun c => absurd rfl c)
            have ePP : y_pp (some c) (some e) p a m = if c.1 = e.1 then (if p.toInt + m.toInt ≤ c.2 ∧ a.toInt + m.toInt ≤ e.2 then 0 else 3) else 8 := rfl
            refine And.intro (fun c4 => ?_) (fun c4 => ?_)
            · have c4 : f 6 2 = f 2 2 := c4
              have c4 : nI c.1 = nI e.1 := a2.symm.trans (c4.trans b2)
              rw [nI_eq (by omega) (by omega)] at c4
              rw [if_pos c4] at ePP
              refine And.intro (fun c5 => ?_) (fun c5 => ?_)
              · have c5 : 0 < lg_cmp (p.toInt64 + m.toInt64) (f 6 1).toInt64 := c5
                rw [x_lg_gt, Int64.lt_iff_toInt_lt, x_ladd, x_l2, a1, nI_toInt (by omega)] at c5
                rw [if_neg (by omega)] at ePP
                rw [ePP, if_neg (by decide)]
                refine Exists.intro _ (And.intro c_refused (And.intro (And.intro (Nat.zero_le _) (Nat.zero_le _)) (fun q h' hpo => ?_)))
                obtain ⟨rfl, rfl⟩ := hpo
                refine And.intro ?_ ⟨Or.inl rfl, Nat.le_refl _, Nat.le_refl _⟩
                exact x_QT_0 hT
              · have c5 : ¬ 0 < lg_cmp (p.toInt64 + m.toInt64) (f 6 1).toInt64 := c5
                rw [x_lg_gt, Int64.lt_iff_toInt_lt, x_ladd, x_l2, a1, nI_toInt (by omega)] at c5
                refine And.intro (fun c6 => ?_) (fun c6 => ?_)
                · have c6 : lg_cmp (a.toInt64 + m.toInt64) (f 2 1).toInt64 ≤ 0 := c6
                  rw [← Int32.not_lt, x_lg_gt, Int64.lt_iff_toInt_lt, x_ladd, x_l2, b1, nI_toInt (by omega)] at c6
                  rw [if_pos (by omega)] at ePP
                  rw [ePP, if_pos rfl]
                  refine And.intro (by show 0 ≤ p.toInt ∧ 0 ≤ a.toInt ∧ 0 ≤ m.toInt ∧ p.toInt + m.toInt ≤ 60 ∧ a.toInt + m.toInt ≤ 60; omega) ?_
                  refine Exists.intro _ (And.intro c_agreed (And.intro (And.intro (Nat.zero_le _) (Nat.zero_le _)) (fun q h' hpo => ?_)))
                  obtain ⟨rfl, rfl⟩ := hpo
                  refine And.intro ?_ ⟨Or.inr rfl, Nat.le_refl _, Nat.le_refl _⟩
                  obtain ⟨p, hp, rfl⟩ := nI_of (x := p) (by rw [x_lt, x_i0]; omega)
                  obtain ⟨a, ha, rfl⟩ := nI_of (x := a) (by rw [x_lt, x_i0]; omega)
                  obtain ⟨m, hm, rfl⟩ := nI_of (x := m) (by rw [x_lt, x_i0]; omega)
                  rw [nI_toInt hp, nI_toInt hm] at c5
                  rw [nI_toInt ha, nI_toInt hm] at c6
                  rw [show x_c (nI p) = p from nI_clamp hp, show x_c (nI a) = a from nI_clamp ha, show x_c (nI m) = m from nI_clamp hm, show x_c (nI 0) = 0 from rfl]
                  try rw [show x_c (nI 2) = 2 from rfl]
                  rw [ho2]
                  try rw [nI_clamp hp]
                  try rw [nI_clamp ha]
                  try rw [nI_clamp hm]
                  refine x_QT_S (x_TC_set (F := f) (G := va_up g 3 (va_cpy (g 7) (g 3) p a m)) (i := 0) (c := some e) (u := va_cpy (T.2 2) (T.2 0) p a m) hT (fun _ _ => rfl) (fun k hk => x_un hk) ⟨b1, b2, b3, b4, fun k hk => ?_⟩) (fun _ _ => rfl) (fun k hk => x_un (by omega))
                  show va_up g 3 (va_cpy (g 7) (g 3) p a m) 3 k = va_cpy (T.2 2) (T.2 0) p a m k
                  rw [x_us]
                  unfold va_cpy
                  by_cases hc : a ≤ k ∧ k < a + m
                  · rw [if_pos hc, if_pos hc]
                    exact a5 _ (by omega)
                  · rw [if_neg hc, if_neg hc]
                    exact b5 k hk
                · have c6 : ¬ lg_cmp (a.toInt64 + m.toInt64) (f 2 1).toInt64 ≤ 0 := c6
                  rw [← Int32.not_lt, x_lg_gt, Int64.lt_iff_toInt_lt, x_ladd, x_l2, b1, nI_toInt (by omega)] at c6
                  rw [if_neg (by omega)] at ePP
                  rw [ePP, if_neg (by decide)]
                  refine Exists.intro _ (And.intro c_refused (And.intro (And.intro (Nat.zero_le _) (Nat.zero_le _)) (fun q h' hpo => ?_)))
                  obtain ⟨rfl, rfl⟩ := hpo
                  refine And.intro ?_ ⟨Or.inl rfl, Nat.le_refl _, Nat.le_refl _⟩
                  exact x_QT_0 hT
            · have c4 : ¬ f 6 2 = f 2 2 := c4
              have c4 : ¬ nI c.1 = nI e.1 := fun q => c4 (a2.trans (q.trans b2.symm))
              rw [nI_eq (by omega) (by omega)] at c4
              rw [if_neg c4] at ePP
              rw [ePP, if_neg (by decide)]
              refine Exists.intro _ (And.intro c_refused (And.intro (And.intro (Nat.zero_le _) (Nat.zero_le _)) (fun q h' hpo => ?_)))
              obtain ⟨rfl, rfl⟩ := hpo
              refine And.intro ?_ ⟨Or.inl rfl, Nat.le_refl _, Nat.le_refl _⟩
              exact x_QT_0 hT
      · have c3 : ¬ 0 ≤ m := c3
        rw [x_le, x_i0] at c3
        rw [bad (by unfold y_np; rw [decide_eq_false c3, Bool.and_false, Bool.and_false]), if_neg (by decide)]
        refine Exists.intro _ (And.intro c_refused (And.intro (And.intro (Nat.zero_le _) (Nat.zero_le _)) (fun q h' hpo => ?_)))
        obtain ⟨rfl, rfl⟩ := hpo
        refine And.intro ?_ ⟨Or.inl rfl, Nat.le_refl _, Nat.le_refl _⟩
        exact x_QT_0 hT
theorem c_pour_2_1 {p a m : Int32} (hT : x_TC f g T) : x_Ct 103 (d + 2) [.ref 0, .int (nI 2), .int p, .int (nI 1), .int a, .int m] (f, g, x_HR r t, dm, n) (x_QT f g (x_HR r t) dm n (st_pour T (nI 2) p (nI 1) a m)) := by
  have h1 := hT 2 (by decide)
  have h2 := hT 1 (by decide)
  have bad : (y_np p && (y_np a && y_np m)) = false → y_po T (nI 2) p (nI 1) a m = 1 := by
    intro hb
    unfold y_po
    rw [hb]
    exact if_neg (by decide)
  have good : (y_np p && (y_np a && y_np m)) = true → y_po T (nI 2) p (nI 1) a m = y_pp (T.1 2) (T.1 1) p a m := by
    intro hb
    unfold y_po
    rw [hb]
    exact if_pos (by decide)
  unfold st_pour
  refine x_Ct_w (by decide) (Nat.le_of_ble_eq_true rfl) ok103 [] 12 ?_
  refine Exists.intro _ (And.intro c_isTray (And.intro (And.intro (Nat.zero_le _) (Nat.zero_le _)) (fun q h' hpo => ?_)))
  obtain ⟨rfl, rfl⟩ := hpo
  refine And.intro (fun c => absurd c (by decide)) (fun _ => ?_)
  refine Exists.intro _ (And.intro c_isTray (And.intro (And.intro (Nat.zero_le _) (Nat.zero_le _)) (fun q h' hpo => ?_)))
  obtain ⟨rfl, rfl⟩ := hpo
  refine And.intro (fun c => absurd c (by decide)) (fun _ => ?_)
  refine And.intro (fun c1 => ?_) (fun c1 => ?_)
  · have c1 : p < 0 := c1
    rw [x_lt, x_i0] at c1
    rw [bad (by unfold y_np; rw [decide_eq_false (by omega : ¬ 0 ≤ p.toInt), Bool.false_and]), if_neg (by decide)]
    refine Exists.intro _ (And.intro c_refused (And.intro (And.intro (Nat.zero_le _) (Nat.zero_le _)) (fun q h' hpo => ?_)))
    obtain ⟨rfl, rfl⟩ := hpo
    refine And.intro ?_ ⟨Or.inl rfl, Nat.le_refl _, Nat.le_refl _⟩
    exact x_QT_0 hT
  · have c1 : ¬ p < 0 := c1
    rw [x_lt, x_i0] at c1
    refine And.intro (fun c2 => ?_) (fun c2 => ?_)
    · have c2 : a < 0 := c2
      rw [x_lt, x_i0] at c2
      rw [bad (by unfold y_np; rw [decide_eq_false (by omega : ¬ 0 ≤ a.toInt), Bool.false_and, Bool.and_false]), if_neg (by decide)]
      refine Exists.intro _ (And.intro c_refused (And.intro (And.intro (Nat.zero_le _) (Nat.zero_le _)) (fun q h' hpo => ?_)))
      obtain ⟨rfl, rfl⟩ := hpo
      refine And.intro ?_ ⟨Or.inl rfl, Nat.le_refl _, Nat.le_refl _⟩
      exact x_QT_0 hT
    · have c2 : ¬ a < 0 := c2
      rw [x_lt, x_i0] at c2
      refine And.intro (fun c3 => ?_) (fun c3 => ?_)
      · have c3 : 0 ≤ m := c3
        rw [x_le, x_i0] at c3
        obtain ⟨o1, ho⟩ : ∃ o1, T.1 2 = o1 := ⟨_, rfl⟩
        obtain ⟨o2, ho2⟩ : ∃ o2, T.1 1 = o2 := ⟨_, rfl⟩
        have hg := good (by unfold y_np; rw [decide_eq_true (by omega : 0 ≤ p.toInt), decide_eq_true (by omega : 0 ≤ a.toInt), decide_eq_true c3]; rfl)
        rw [show y_po T (nI 2) p (nI 1) a m = y_pp o1 o2 p a m by rw [hg, ← ho, ← ho2]]
        rw [ho] at h1
        rw [ho2] at h2
        refine And.intro (x_ix_nI (by omega) (by omega)) ?_
        rw [nI_clamp (by omega)]
        refine And.intro (x_ix_nI (by omega) (by omega)) ?_
        rw [nI_clamp (by omega)]
        refine Exists.intro _ (And.intro c_isMissing_2 (And.intro (And.intro (Nat.zero_le _) (Nat.zero_le _)) (fun q h' hpo => ?_)))
        obtain ⟨rfl, rfl⟩ := hpo
        cases o1 with
        | none =>
          have h1 : f 6 1 = -1 := h1
          rw [decide_eq_true h1]
          refine And.intro (fun _ => ?_) (fun c => absurd c (by decide))
          rw [show y_pp none o2 p a m = 2 from rfl, if_neg (by decide)]
          refine Exists.intro _ (And.intro c_refused (And.intro (And.intro (Nat.zero_le _) (Nat.zero_le _)) (fun q h' hpo => ?_)))
          obtain ⟨rfl, rfl⟩ := hpo
          refine And.intro ?_ ⟨Or.inl rfl, Nat.le_refl _, Nat.le_refl _⟩
          exact x_QT_0 hT
        | some c =>
          obtain ⟨a1, a2, a3, a4, a5⟩ := h1
          have a1 : f 6 1 = nI c.2 := a1
          have a2 : f 6 2 = nI c.1 := a2
          rw [decide_eq_false (by rw [a1]; exact x_nIm (by omega))]
          refine And.intro (fun c => absurd rfl c) (fun _ => ?_)
          refine Exists.intro _ (And.intro c_isMissing_1 (And.intro (And.intro (Nat.zero_le _) (Nat.zero_le _)) (fun q h' hpo => ?_)))
          obtain ⟨rfl, rfl⟩ := hpo
          cases o2 with
          | none =>
            have h2 : f 4 1 = -1 := h2
            rw [decide_eq_true h2]
            refine And.intro (fun c => absurd c (by decide)) (fun _ => ?_)
            rw [show y_pp (some c) none p a m = 2 from rfl, if_neg (by decide)]
            refine Exists.intro _ (And.intro c_refused (And.intro (And.intro (Nat.zero_le _) (Nat.zero_le _)) (fun q h' hpo => ?_)))
            obtain ⟨rfl, rfl⟩ := hpo
            refine And.intro ?_ ⟨Or.inl rfl, Nat.le_refl _, Nat.le_refl _⟩
            exact x_QT_0 hT
          | some e =>
            obtain ⟨b1, b2, b3, b4, b5⟩ := h2
            have b1 : f 4 1 = nI e.2 := b1
            have b2 : f 4 2 = nI e.1 := b2
            rw [decide_eq_false (by rw [b1]; exact x_nIm (by omega))]
            refine And.intro (fun _ => ?_) (fun c => absurd rfl c)
            have ePP : y_pp (some c) (some e) p a m = if c.1 = e.1 then (if p.toInt + m.toInt ≤ c.2 ∧ a.toInt + m.toInt ≤ e.2 then 0 else 3) else 8 := rfl
            refine And.intro (fun c4 => ?_) (fun c4 => ?_)
            · have c4 : f 6 2 = f 4 2 := c4
              have c4 : nI c.1 = nI e.1 := a2.symm.trans (c4.trans b2)
              rw [nI_eq (by omega) (by omega)] at c4
              rw [if_pos c4] at ePP
              refine And.intro (fun c5 => ?_) (fun c5 => ?_)
              · have c5 : 0 < lg_cmp (p.toInt64 + m.toInt64) (f 6 1).toInt64 := c5
                rw [x_lg_gt, Int64.lt_iff_toInt_lt, x_ladd, x_l2, a1, nI_toInt (by omega)] at c5
                rw [if_neg (by omega)] at ePP
                rw [ePP, if_neg (by decide)]
                refine Exists.intro _ (And.intro c_refused (And.intro (And.intro (Nat.zero_le _) (Nat.zero_le _)) (fun q h' hpo => ?_)))
                obtain ⟨rfl, rfl⟩ := hpo
                refine And.intro ?_ ⟨Or.inl rfl, Nat.le_refl _, Nat.le_refl _⟩
                exact x_QT_0 hT
              · have c5 : ¬ 0 < lg_cmp (p.toInt64 + m.toInt64) (f 6 1).toInt64 := c5
                rw [x_lg_gt, Int64.lt_iff_toInt_lt, x_ladd, x_l2, a1, nI_toInt (by omega)] at c5
                refine And.intro (fun c6 => ?_) (fun c6 => ?_)
                · have c6 : lg_cmp (a.toInt64 + m.toInt64) (f 4 1).toInt64 ≤ 0 := c6
                  rw [← Int32.not_lt, x_lg_gt, Int64.lt_iff_toInt_lt, x_ladd, x_l2, b1, nI_toInt (by omega)] at c6
                  rw [if_pos (by omega)] at ePP
                  rw [ePP, if_pos rfl]
                  refine And.intro (by show 0 ≤ p.toInt ∧ 0 ≤ a.toInt ∧ 0 ≤ m.toInt ∧ p.toInt + m.toInt ≤ 60 ∧ a.toInt + m.toInt ≤ 60; omega) ?_
                  refine Exists.intro _ (And.intro c_agreed (And.intro (And.intro (Nat.zero_le _) (Nat.zero_le _)) (fun q h' hpo => ?_)))
                  obtain ⟨rfl, rfl⟩ := hpo
                  refine And.intro ?_ ⟨Or.inr rfl, Nat.le_refl _, Nat.le_refl _⟩
                  obtain ⟨p, hp, rfl⟩ := nI_of (x := p) (by rw [x_lt, x_i0]; omega)
                  obtain ⟨a, ha, rfl⟩ := nI_of (x := a) (by rw [x_lt, x_i0]; omega)
                  obtain ⟨m, hm, rfl⟩ := nI_of (x := m) (by rw [x_lt, x_i0]; omega)
                  rw [nI_toInt hp, nI_toInt hm] at c5
                  rw [nI_toInt ha, nI_toInt hm] at c6
                  rw [show x_c (nI p) = p from nI_clamp hp, show x_c (nI a) = a from nI_clamp ha, show x_c (nI m) = m from nI_clamp hm, show x_c (nI 1) = 1 from rfl]
                  try rw [show x_c (nI 2) = 2 from rfl]
                  rw [ho2]
                  try rw [nI_clamp hp]
                  try rw [nI_clamp ha]
                  try rw [nI_clamp hm]
                  refine x_QT_S (x_TC_set (F := f) (G := va_up g 5 (va_cpy (g 7) (g 5) p a m)) (i := 1) (c := some e) (u := va_cpy (T.2 2) (T.2 1) p a m) hT (fun _ _ => rfl) (fun k hk => x_un hk) ⟨b1, b2, b3, b4, fun k hk => ?_⟩) (fun _ _ => rfl) (fun k hk => x_un (by omega))
                  show va_up g 5 (va_cpy (g 7) (g 5) p a m) 5 k = va_cpy (T.2 2) (T.2 1) p a m k
                  rw [x_us]
                  unfold va_cpy
                  by_cases hc : a ≤ k ∧ k < a + m
                  · rw [if_pos hc, if_pos hc]
                    exact a5 _ (by omega)
                  · rw [if_neg hc, if_neg hc]
                    exact b5 k hk
                · have c6 : ¬ lg_cmp (a.toInt64 + m.toInt64) (f 4 1).toInt64 ≤ 0 := c6
                  rw [← Int32.not_lt, x_lg_gt, Int64.lt_iff_toInt_lt, x_ladd, x_l2, b1, nI_toInt (by omega)] at c6
                  rw [if_neg (by omega)] at ePP
                  rw [ePP, if_neg (by decide)]
                  refine Exists.intro _ (And.intro c_refused (And.intro (And.intro (Nat.zero_le _) (Nat.zero_le _)) (fun q h' hpo => ?_)))
                  obtain ⟨rfl, rfl⟩ := hpo
                  refine And.intro ?_ ⟨Or.inl rfl, Nat.le_refl _, Nat.le_refl _⟩
                  exact x_QT_0 hT
            · have c4 : ¬ f 6 2 = f 4 2 := c4
              have c4 : ¬ nI c.1 = nI e.1 := fun q => c4 (a2.trans (q.trans b2.symm))
              rw [nI_eq (by omega) (by omega)] at c4
              rw [if_neg c4] at ePP
              rw [ePP, if_neg (by decide)]
              refine Exists.intro _ (And.intro c_refused (And.intro (And.intro (Nat.zero_le _) (Nat.zero_le _)) (fun q h' hpo => ?_)))
              obtain ⟨rfl, rfl⟩ := hpo
              refine And.intro ?_ ⟨Or.inl rfl, Nat.le_refl _, Nat.le_refl _⟩
              exact x_QT_0 hT
      · have c3 : ¬ 0 ≤ m := c3
        rw [x_le, x_i0] at c3
        rw [bad (by unfold y_np; rw [decide_eq_false c3, Bool.and_false, Bool.and_false]), if_neg (by decide)]
        refine Exists.intro _ (And.intro c_refused (And.intro (And.intro (Nat.zero_le _) (Nat.zero_le _)) (fun q h' hpo => ?_)))
        obtain ⟨rfl, rfl⟩ := hpo
        refine And.intro ?_ ⟨Or.inl rfl, Nat.le_refl _, Nat.le_refl _⟩
        exact x_QT_0 hT
theorem c_pour_2_2 {p a m : Int32} (hT : x_TC f g T) : x_Ct 103 (d + 2) [.ref 0, .int (nI 2), .int p, .int (nI 2), .int a, .int m] (f, g, x_HR r t, dm, n) (x_QT f g (x_HR r t) dm n (st_pour T (nI 2) p (nI 2) a m)) := by
  have h1 := hT 2 (by decide)
  have h2 := hT 2 (by decide)
  have bad : (y_np p && (y_np a && y_np m)) = false → y_po T (nI 2) p (nI 2) a m = 1 := by
    intro hb
    unfold y_po
    rw [hb]
    exact if_neg (by decide)
  have good : (y_np p && (y_np a && y_np m)) = true → y_po T (nI 2) p (nI 2) a m = y_pp (T.1 2) (T.1 2) p a m := by
    intro hb
    unfold y_po
    rw [hb]
    exact if_pos (by decide)
  unfold st_pour
  refine x_Ct_w (by decide) (Nat.le_of_ble_eq_true rfl) ok103 [] 12 ?_
  refine Exists.intro _ (And.intro c_isTray (And.intro (And.intro (Nat.zero_le _) (Nat.zero_le _)) (fun q h' hpo => ?_)))
  obtain ⟨rfl, rfl⟩ := hpo
  refine And.intro (fun c => absurd c (by decide)) (fun _ => ?_)
  refine Exists.intro _ (And.intro c_isTray (And.intro (And.intro (Nat.zero_le _) (Nat.zero_le _)) (fun q h' hpo => ?_)))
  obtain ⟨rfl, rfl⟩ := hpo
  refine And.intro (fun c => absurd c (by decide)) (fun _ => ?_)
  refine And.intro (fun c1 => ?_) (fun c1 => ?_)
  · have c1 : p < 0 := c1
    rw [x_lt, x_i0] at c1
    rw [bad (by unfold y_np; rw [decide_eq_false (by omega : ¬ 0 ≤ p.toInt), Bool.false_and]), if_neg (by decide)]
    refine Exists.intro _ (And.intro c_refused (And.intro (And.intro (Nat.zero_le _) (Nat.zero_le _)) (fun q h' hpo => ?_)))
    obtain ⟨rfl, rfl⟩ := hpo
    refine And.intro ?_ ⟨Or.inl rfl, Nat.le_refl _, Nat.le_refl _⟩
    exact x_QT_0 hT
  · have c1 : ¬ p < 0 := c1
    rw [x_lt, x_i0] at c1
    refine And.intro (fun c2 => ?_) (fun c2 => ?_)
    · have c2 : a < 0 := c2
      rw [x_lt, x_i0] at c2
      rw [bad (by unfold y_np; rw [decide_eq_false (by omega : ¬ 0 ≤ a.toInt), Bool.false_and, Bool.and_false]), if_neg (by decide)]
      refine Exists.intro _ (And.intro c_refused (And.intro (And.intro (Nat.zero_le _) (Nat.zero_le _)) (fun q h' hpo => ?_)))
      obtain ⟨rfl, rfl⟩ := hpo
      refine And.intro ?_ ⟨Or.inl rfl, Nat.le_refl _, Nat.le_refl _⟩
      exact x_QT_0 hT
    · have c2 : ¬ a < 0 := c2
      rw [x_lt, x_i0] at c2
      refine And.intro (fun c3 => ?_) (fun c3 => ?_)
      · have c3 : 0 ≤ m := c3
        rw [x_le, x_i0] at c3
        obtain ⟨o1, ho⟩ : ∃ o1, T.1 2 = o1 := ⟨_, rfl⟩
        obtain ⟨o2, ho2⟩ : ∃ o2, T.1 2 = o2 := ⟨_, rfl⟩
        have hg := good (by unfold y_np; rw [decide_eq_true (by omega : 0 ≤ p.toInt), decide_eq_true (by omega : 0 ≤ a.toInt), decide_eq_true c3]; rfl)
        rw [show y_po T (nI 2) p (nI 2) a m = y_pp o1 o2 p a m by rw [hg, ← ho, ← ho2]]
        rw [ho] at h1
        rw [ho2] at h2
        refine And.intro (x_ix_nI (by omega) (by omega)) ?_
        rw [nI_clamp (by omega)]
        refine And.intro (x_ix_nI (by omega) (by omega)) ?_
        rw [nI_clamp (by omega)]
        refine Exists.intro _ (And.intro c_isMissing_2 (And.intro (And.intro (Nat.zero_le _) (Nat.zero_le _)) (fun q h' hpo => ?_)))
        obtain ⟨rfl, rfl⟩ := hpo
        cases o1 with
        | none =>
          have h1 : f 6 1 = -1 := h1
          rw [decide_eq_true h1]
          refine And.intro (fun _ => ?_) (fun c => absurd c (by decide))
          rw [show y_pp none o2 p a m = 2 from rfl, if_neg (by decide)]
          refine Exists.intro _ (And.intro c_refused (And.intro (And.intro (Nat.zero_le _) (Nat.zero_le _)) (fun q h' hpo => ?_)))
          obtain ⟨rfl, rfl⟩ := hpo
          refine And.intro ?_ ⟨Or.inl rfl, Nat.le_refl _, Nat.le_refl _⟩
          exact x_QT_0 hT
        | some c =>
          obtain ⟨a1, a2, a3, a4, a5⟩ := h1
          have a1 : f 6 1 = nI c.2 := a1
          have a2 : f 6 2 = nI c.1 := a2
          rw [decide_eq_false (by rw [a1]; exact x_nIm (by omega))]
          refine And.intro (fun c => absurd rfl c) (fun _ => ?_)
          refine Exists.intro _ (And.intro c_isMissing_2 (And.intro (And.intro (Nat.zero_le _) (Nat.zero_le _)) (fun q h' hpo => ?_)))
          obtain ⟨rfl, rfl⟩ := hpo
          cases o2 with
          | none =>
            have h2 : f 6 1 = -1 := h2
            rw [decide_eq_true h2]
            refine And.intro (fun c => absurd c (by decide)) (fun _ => ?_)
            rw [show y_pp (some c) none p a m = 2 from rfl, if_neg (by decide)]
            refine Exists.intro _ (And.intro c_refused (And.intro (And.intro (Nat.zero_le _) (Nat.zero_le _)) (fun q h' hpo => ?_)))
            obtain ⟨rfl, rfl⟩ := hpo
            refine And.intro ?_ ⟨Or.inl rfl, Nat.le_refl _, Nat.le_refl _⟩
            exact x_QT_0 hT
          | some e =>
            obtain ⟨b1, b2, b3, b4, b5⟩ := h2
            have b1 : f 6 1 = nI e.2 := b1
            have b2 : f 6 2 = nI e.1 := b2
            rw [decide_eq_false (by rw [b1]; exact x_nIm (by omega))]
            refine And.intro (fun _ => ?_) (fun c => absurd rfl c)
            have ePP : y_pp (some c) (some e) p a m = if c.1 = e.1 then (if p.toInt + m.toInt ≤ c.2 ∧ a.toInt + m.toInt ≤ e.2 then 0 else 3) else 8 := rfl
            refine And.intro (fun c4 => ?_) (fun c4 => ?_)
            · have c4 : f 6 2 = f 6 2 := c4
              have c4 : nI c.1 = nI e.1 := a2.symm.trans (c4.trans b2)
              rw [nI_eq (by omega) (by omega)] at c4
              rw [if_pos c4] at ePP
              refine And.intro (fun c5 => ?_) (fun c5 => ?_)
              · have c5 : 0 < lg_cmp (p.toInt64 + m.toInt64) (f 6 1).toInt64 := c5
                rw [x_lg_gt, Int64.lt_iff_toInt_lt, x_ladd, x_l2, a1, nI_toInt (by omega)] at c5
                rw [if_neg (by omega)] at ePP
                rw [ePP, if_neg (by decide)]
                refine Exists.intro _ (And.intro c_refused (And.intro (And.intro (Nat.zero_le _) (Nat.zero_le _)) (fun q h' hpo => ?_)))
                obtain ⟨rfl, rfl⟩ := hpo
                refine And.intro ?_ ⟨Or.inl rfl, Nat.le_refl _, Nat.le_refl _⟩
                exact x_QT_0 hT
              · have c5 : ¬ 0 < lg_cmp (p.toInt64 + m.toInt64) (f 6 1).toInt64 := c5
                rw [x_lg_gt, Int64.lt_iff_toInt_lt, x_ladd, x_l2, a1, nI_toInt (by omega)] at c5
                refine And.intro (fun c6 => ?_) (fun c6 => ?_)
                · have c6 : lg_cmp (a.toInt64 + m.toInt64) (f 6 1).toInt64 ≤ 0 := c6
                  rw [← Int32.not_lt, x_lg_gt, Int64.lt_iff_toInt_lt, x_ladd, x_l2, b1, nI_toInt (by omega)] at c6
                  rw [if_pos (by omega)] at ePP
                  rw [ePP, if_pos rfl]
                  refine And.intro (by show 0 ≤ p.toInt ∧ 0 ≤ a.toInt ∧ 0 ≤ m.toInt ∧ p.toInt + m.toInt ≤ 60 ∧ a.toInt + m.toInt ≤ 60; omega) ?_
                  refine Exists.intro _ (And.intro c_agreed (And.intro (And.intro (Nat.zero_le _) (Nat.zero_le _)) (fun q h' hpo => ?_)))
                  obtain ⟨rfl, rfl⟩ := hpo
                  refine And.intro ?_ ⟨Or.inr rfl, Nat.le_refl _, Nat.le_refl _⟩
                  obtain ⟨p, hp, rfl⟩ := nI_of (x := p) (by rw [x_lt, x_i0]; omega)
                  obtain ⟨a, ha, rfl⟩ := nI_of (x := a) (by rw [x_lt, x_i0]; omega)
                  obtain ⟨m, hm, rfl⟩ := nI_of (x := m) (by rw [x_lt, x_i0]; omega)
                  rw [nI_toInt hp, nI_toInt hm] at c5
                  rw [nI_toInt ha, nI_toInt hm] at c6
                  rw [show x_c (nI p) = p from nI_clamp hp, show x_c (nI a) = a from nI_clamp ha, show x_c (nI m) = m from nI_clamp hm, show x_c (nI 2) = 2 from rfl]
                  try rw [show x_c (nI 2) = 2 from rfl]
                  rw [ho2]
                  try rw [nI_clamp hp]
                  try rw [nI_clamp ha]
                  try rw [nI_clamp hm]
                  refine x_QT_S (x_TC_set (F := f) (G := va_up g 7 (va_cpy (g 7) (g 7) p a m)) (i := 2) (c := some e) (u := va_cpy (T.2 2) (T.2 2) p a m) hT (fun _ _ => rfl) (fun k hk => x_un hk) ⟨b1, b2, b3, b4, fun k hk => ?_⟩) (fun _ _ => rfl) (fun k hk => x_un (by omega))
                  show va_up g 7 (va_cpy (g 7) (g 7) p a m) 7 k = va_cpy (T.2 2) (T.2 2) p a m k
                  rw [x_us]
                  unfold va_cpy
                  by_cases hc : a ≤ k ∧ k < a + m
                  · rw [if_pos hc, if_pos hc]
                    exact a5 _ (by omega)
                  · rw [if_neg hc, if_neg hc]
                    exact b5 k hk
                · have c6 : ¬ lg_cmp (a.toInt64 + m.toInt64) (f 6 1).toInt64 ≤ 0 := c6
                  rw [← Int32.not_lt, x_lg_gt, Int64.lt_iff_toInt_lt, x_ladd, x_l2, b1, nI_toInt (by omega)] at c6
                  rw [if_neg (by omega)] at ePP
                  rw [ePP, if_neg (by decide)]
                  refine Exists.intro _ (And.intro c_refused (And.intro (And.intro (Nat.zero_le _) (Nat.zero_le _)) (fun q h' hpo => ?_)))
                  obtain ⟨rfl, rfl⟩ := hpo
                  refine And.intro ?_ ⟨Or.inl rfl, Nat.le_refl _, Nat.le_refl _⟩
                  exact x_QT_0 hT
            · have c4 : ¬ f 6 2 = f 6 2 := c4
              have c4 : ¬ nI c.1 = nI e.1 := fun q => c4 (a2.trans (q.trans b2.symm))
              rw [nI_eq (by omega) (by omega)] at c4
              rw [if_neg c4] at ePP
              rw [ePP, if_neg (by decide)]
              refine Exists.intro _ (And.intro c_refused (And.intro (And.intro (Nat.zero_le _) (Nat.zero_le _)) (fun q h' hpo => ?_)))
              obtain ⟨rfl, rfl⟩ := hpo
              refine And.intro ?_ ⟨Or.inl rfl, Nat.le_refl _, Nat.le_refl _⟩
              exact x_QT_0 hT
      · have c3 : ¬ 0 ≤ m := c3
        rw [x_le, x_i0] at c3
        rw [bad (by unfold y_np; rw [decide_eq_false c3, Bool.and_false, Bool.and_false]), if_neg (by decide)]
        refine Exists.intro _ (And.intro c_refused (And.intro (And.intro (Nat.zero_le _) (Nat.zero_le _)) (fun q h' hpo => ?_)))
        obtain ⟨rfl, rfl⟩ := hpo
        refine And.intro ?_ ⟨Or.inl rfl, Nat.le_refl _, Nat.le_refl _⟩
        exact x_QT_0 hT
theorem c_pour_2_3 {p a m : Int32} (hT : x_TC f g T) : x_Ct 103 (d + 2) [.ref 0, .int (nI 2), .int p, .int (nI 3), .int a, .int m] (f, g, x_HR r t, dm, n) (x_QT f g (x_HR r t) dm n (st_pour T (nI 2) p (nI 3) a m)) := by
  have h1 := hT 2 (by decide)
  have h2 := hT 3 (by decide)
  have bad : (y_np p && (y_np a && y_np m)) = false → y_po T (nI 2) p (nI 3) a m = 1 := by
    intro hb
    unfold y_po
    rw [hb]
    exact if_neg (by decide)
  have good : (y_np p && (y_np a && y_np m)) = true → y_po T (nI 2) p (nI 3) a m = y_pp (T.1 2) (T.1 3) p a m := by
    intro hb
    unfold y_po
    rw [hb]
    exact if_pos (by decide)
  unfold st_pour
  refine x_Ct_w (by decide) (Nat.le_of_ble_eq_true rfl) ok103 [] 12 ?_
  refine Exists.intro _ (And.intro c_isTray (And.intro (And.intro (Nat.zero_le _) (Nat.zero_le _)) (fun q h' hpo => ?_)))
  obtain ⟨rfl, rfl⟩ := hpo
  refine And.intro (fun c => absurd c (by decide)) (fun _ => ?_)
  refine Exists.intro _ (And.intro c_isTray (And.intro (And.intro (Nat.zero_le _) (Nat.zero_le _)) (fun q h' hpo => ?_)))
  obtain ⟨rfl, rfl⟩ := hpo
  refine And.intro (fun c => absurd c (by decide)) (fun _ => ?_)
  refine And.intro (fun c1 => ?_) (fun c1 => ?_)
  · have c1 : p < 0 := c1
    rw [x_lt, x_i0] at c1
    rw [bad (by unfold y_np; rw [decide_eq_false (by omega : ¬ 0 ≤ p.toInt), Bool.false_and]), if_neg (by decide)]
    refine Exists.intro _ (And.intro c_refused (And.intro (And.intro (Nat.zero_le _) (Nat.zero_le _)) (fun q h' hpo => ?_)))
    obtain ⟨rfl, rfl⟩ := hpo
    refine And.intro ?_ ⟨Or.inl rfl, Nat.le_refl _, Nat.le_refl _⟩
    exact x_QT_0 hT
  · have c1 : ¬ p < 0 := c1
    rw [x_lt, x_i0] at c1
    refine And.intro (fun c2 => ?_) (fun c2 => ?_)
    · have c2 : a < 0 := c2
      rw [x_lt, x_i0] at c2
      rw [bad (by unfold y_np; rw [decide_eq_false (by omega : ¬ 0 ≤ a.toInt), Bool.false_and, Bool.and_false]), if_neg (by decide)]
      refine Exists.intro _ (And.intro c_refused (And.intro (And.intro (Nat.zero_le _) (Nat.zero_le _)) (fun q h' hpo => ?_)))
      obtain ⟨rfl, rfl⟩ := hpo
      refine And.intro ?_ ⟨Or.inl rfl, Nat.le_refl _, Nat.le_refl _⟩
      exact x_QT_0 hT
    · have c2 : ¬ a < 0 := c2
      rw [x_lt, x_i0] at c2
      refine And.intro (fun c3 => ?_) (fun c3 => ?_)
      · have c3 : 0 ≤ m := c3
        rw [x_le, x_i0] at c3
        obtain ⟨o1, ho⟩ : ∃ o1, T.1 2 = o1 := ⟨_, rfl⟩
        obtain ⟨o2, ho2⟩ : ∃ o2, T.1 3 = o2 := ⟨_, rfl⟩
        have hg := good (by unfold y_np; rw [decide_eq_true (by omega : 0 ≤ p.toInt), decide_eq_true (by omega : 0 ≤ a.toInt), decide_eq_true c3]; rfl)
        rw [show y_po T (nI 2) p (nI 3) a m = y_pp o1 o2 p a m by rw [hg, ← ho, ← ho2]]
        rw [ho] at h1
        rw [ho2] at h2
        refine And.intro (x_ix_nI (by omega) (by omega)) ?_
        rw [nI_clamp (by omega)]
        refine And.intro (x_ix_nI (by omega) (by omega)) ?_
        rw [nI_clamp (by omega)]
        refine Exists.intro _ (And.intro c_isMissing_2 (And.intro (And.intro (Nat.zero_le _) (Nat.zero_le _)) (fun q h' hpo => ?_)))
        obtain ⟨rfl, rfl⟩ := hpo
        cases o1 with
        | none =>
          have h1 : f 6 1 = -1 := h1
          rw [decide_eq_true h1]
          refine And.intro (fun _ => ?_) (fun c => absurd c (by decide))
          rw [show y_pp none o2 p a m = 2 from rfl, if_neg (by decide)]
          refine Exists.intro _ (And.intro c_refused (And.intro (And.intro (Nat.zero_le _) (Nat.zero_le _)) (fun q h' hpo => ?_)))
          obtain ⟨rfl, rfl⟩ := hpo
          refine And.intro ?_ ⟨Or.inl rfl, Nat.le_refl _, Nat.le_refl _⟩
          exact x_QT_0 hT
        | some c =>
          obtain ⟨a1, a2, a3, a4, a5⟩ := h1
          have a1 : f 6 1 = nI c.2 := a1
          have a2 : f 6 2 = nI c.1 := a2
          rw [decide_eq_false (by rw [a1]; exact x_nIm (by omega))]
          refine And.intro (fun c => absurd rfl c) (fun _ => ?_)
          refine Exists.intro _ (And.intro c_isMissing_3 (And.intro (And.intro (Nat.zero_le _) (Nat.zero_le _)) (fun q h' hpo => ?_)))
          obtain ⟨rfl, rfl⟩ := hpo
          cases o2 with
          | none =>
            have h2 : f 8 1 = -1 := h2
            rw [decide_eq_true h2]
            refine And.intro (fun c => absurd c (by decide)) (fun _ => ?_)
            rw [show y_pp (some c) none p a m = 2 from rfl, if_neg (by decide)]
            refine Exists.intro _ (And.intro c_refused (And.intro (And.intro (Nat.zero_le _) (Nat.zero_le _)) (fun q h' hpo => ?_)))
            obtain ⟨rfl, rfl⟩ := hpo
            refine And.intro ?_ ⟨Or.inl rfl, Nat.le_refl _, Nat.le_refl _⟩
            exact x_QT_0 hT
          | some e =>
            obtain ⟨b1, b2, b3, b4, b5⟩ := h2
            have b1 : f 8 1 = nI e.2 := b1
            have b2 : f 8 2 = nI e.1 := b2
            rw [decide_eq_false (by rw [b1]; exact x_nIm (by omega))]
            refine And.intro (fun _ => ?_) (fun c => absurd rfl c)
            have ePP : y_pp (some c) (some e) p a m = if c.1 = e.1 then (if p.toInt + m.toInt ≤ c.2 ∧ a.toInt + m.toInt ≤ e.2 then 0 else 3) else 8 := rfl
            refine And.intro (fun c4 => ?_) (fun c4 => ?_)
            · have c4 : f 6 2 = f 8 2 := c4
              have c4 : nI c.1 = nI e.1 := a2.symm.trans (c4.trans b2)
              rw [nI_eq (by omega) (by omega)] at c4
              rw [if_pos c4] at ePP
              refine And.intro (fun c5 => ?_) (fun c5 => ?_)
              · have c5 : 0 < lg_cmp (p.toInt64 + m.toInt64) (f 6 1).toInt64 := c5
                rw [x_lg_gt, Int64.lt_iff_toInt_lt, x_ladd, x_l2, a1, nI_toInt (by omega)] at c5
                rw [if_neg (by omega)] at ePP
                rw [ePP, if_neg (by decide)]
                refine Exists.intro _ (And.intro c_refused (And.intro (And.intro (Nat.zero_le _) (Nat.zero_le _)) (fun q h' hpo => ?_)))
                obtain ⟨rfl, rfl⟩ := hpo
                refine And.intro ?_ ⟨Or.inl rfl, Nat.le_refl _, Nat.le_refl _⟩
                exact x_QT_0 hT
              · have c5 : ¬ 0 < lg_cmp (p.toInt64 + m.toInt64) (f 6 1).toInt64 := c5
                rw [x_lg_gt, Int64.lt_iff_toInt_lt, x_ladd, x_l2, a1, nI_toInt (by omega)] at c5
                refine And.intro (fun c6 => ?_) (fun c6 => ?_)
                · have c6 : lg_cmp (a.toInt64 + m.toInt64) (f 8 1).toInt64 ≤ 0 := c6
                  rw [← Int32.not_lt, x_lg_gt, Int64.lt_iff_toInt_lt, x_ladd, x_l2, b1, nI_toInt (by omega)] at c6
                  rw [if_pos (by omega)] at ePP
                  rw [ePP, if_pos rfl]
                  refine And.intro (by show 0 ≤ p.toInt ∧ 0 ≤ a.toInt ∧ 0 ≤ m.toInt ∧ p.toInt + m.toInt ≤ 60 ∧ a.toInt + m.toInt ≤ 60; omega) ?_
                  refine Exists.intro _ (And.intro c_agreed (And.intro (And.intro (Nat.zero_le _) (Nat.zero_le _)) (fun q h' hpo => ?_)))
                  obtain ⟨rfl, rfl⟩ := hpo
                  refine And.intro ?_ ⟨Or.inr rfl, Nat.le_refl _, Nat.le_refl _⟩
                  obtain ⟨p, hp, rfl⟩ := nI_of (x := p) (by rw [x_lt, x_i0]; omega)
                  obtain ⟨a, ha, rfl⟩ := nI_of (x := a) (by rw [x_lt, x_i0]; omega)
                  obtain ⟨m, hm, rfl⟩ := nI_of (x := m) (by rw [x_lt, x_i0]; omega)
                  rw [nI_toInt hp, nI_toInt hm] at c5
                  rw [nI_toInt ha, nI_toInt hm] at c6
                  rw [show x_c (nI p) = p from nI_clamp hp, show x_c (nI a) = a from nI_clamp ha, show x_c (nI m) = m from nI_clamp hm, show x_c (nI 3) = 3 from rfl]
                  try rw [show x_c (nI 2) = 2 from rfl]
                  rw [ho2]
                  try rw [nI_clamp hp]
                  try rw [nI_clamp ha]
                  try rw [nI_clamp hm]
                  refine x_QT_S (x_TC_set (F := f) (G := va_up g 9 (va_cpy (g 7) (g 9) p a m)) (i := 3) (c := some e) (u := va_cpy (T.2 2) (T.2 3) p a m) hT (fun _ _ => rfl) (fun k hk => x_un hk) ⟨b1, b2, b3, b4, fun k hk => ?_⟩) (fun _ _ => rfl) (fun k hk => x_un (by omega))
                  show va_up g 9 (va_cpy (g 7) (g 9) p a m) 9 k = va_cpy (T.2 2) (T.2 3) p a m k
                  rw [x_us]
                  unfold va_cpy
                  by_cases hc : a ≤ k ∧ k < a + m
                  · rw [if_pos hc, if_pos hc]
                    exact a5 _ (by omega)
                  · rw [if_neg hc, if_neg hc]
                    exact b5 k hk
                · have c6 : ¬ lg_cmp (a.toInt64 + m.toInt64) (f 8 1).toInt64 ≤ 0 := c6
                  rw [← Int32.not_lt, x_lg_gt, Int64.lt_iff_toInt_lt, x_ladd, x_l2, b1, nI_toInt (by omega)] at c6
                  rw [if_neg (by omega)] at ePP
                  rw [ePP, if_neg (by decide)]
                  refine Exists.intro _ (And.intro c_refused (And.intro (And.intro (Nat.zero_le _) (Nat.zero_le _)) (fun q h' hpo => ?_)))
                  obtain ⟨rfl, rfl⟩ := hpo
                  refine And.intro ?_ ⟨Or.inl rfl, Nat.le_refl _, Nat.le_refl _⟩
                  exact x_QT_0 hT
            · have c4 : ¬ f 6 2 = f 8 2 := c4
              have c4 : ¬ nI c.1 = nI e.1 := fun q => c4 (a2.trans (q.trans b2.symm))
              rw [nI_eq (by omega) (by omega)] at c4
              rw [if_neg c4] at ePP
              rw [ePP, if_neg (by decide)]
              refine Exists.intro _ (And.intro c_refused (And.intro (And.intro (Nat.zero_le _) (Nat.zero_le _)) (fun q h' hpo => ?_)))
              obtain ⟨rfl, rfl⟩ := hpo
              refine And.intro ?_ ⟨Or.inl rfl, Nat.le_refl _, Nat.le_refl _⟩
              exact x_QT_0 hT
      · have c3 : ¬ 0 ≤ m := c3
        rw [x_le, x_i0] at c3
        rw [bad (by unfold y_np; rw [decide_eq_false c3, Bool.and_false, Bool.and_false]), if_neg (by decide)]
        refine Exists.intro _ (And.intro c_refused (And.intro (And.intro (Nat.zero_le _) (Nat.zero_le _)) (fun q h' hpo => ?_)))
        obtain ⟨rfl, rfl⟩ := hpo
        refine And.intro ?_ ⟨Or.inl rfl, Nat.le_refl _, Nat.le_refl _⟩
        exact x_QT_0 hT
theorem c_pour_3_0 {p a m : Int32} (hT : x_TC f g T) : x_Ct 103 (d + 2) [.ref 0, .int (nI 3), .int p, .int (nI 0), .int a, .int m] (f, g, x_HR r t, dm, n) (x_QT f g (x_HR r t) dm n (st_pour T (nI 3) p (nI 0) a m)) := by
  have h1 := hT 3 (by decide)
  have h2 := hT 0 (by decide)
  have bad : (y_np p && (y_np a && y_np m)) = false → y_po T (nI 3) p (nI 0) a m = 1 := by
    intro hb
    unfold y_po
    rw [hb]
    exact if_neg (by decide)
  have good : (y_np p && (y_np a && y_np m)) = true → y_po T (nI 3) p (nI 0) a m = y_pp (T.1 3) (T.1 0) p a m := by
    intro hb
    unfold y_po
    rw [hb]
    exact if_pos (by decide)
  unfold st_pour
  refine x_Ct_w (by decide) (Nat.le_of_ble_eq_true rfl) ok103 [] 12 ?_
  refine Exists.intro _ (And.intro c_isTray (And.intro (And.intro (Nat.zero_le _) (Nat.zero_le _)) (fun q h' hpo => ?_)))
  obtain ⟨rfl, rfl⟩ := hpo
  refine And.intro (fun c => absurd c (by decide)) (fun _ => ?_)
  refine Exists.intro _ (And.intro c_isTray (And.intro (And.intro (Nat.zero_le _) (Nat.zero_le _)) (fun q h' hpo => ?_)))
  obtain ⟨rfl, rfl⟩ := hpo
  refine And.intro (fun c => absurd c (by decide)) (fun _ => ?_)
  refine And.intro (fun c1 => ?_) (fun c1 => ?_)
  · have c1 : p < 0 := c1
    rw [x_lt, x_i0] at c1
    rw [bad (by unfold y_np; rw [decide_eq_false (by omega : ¬ 0 ≤ p.toInt), Bool.false_and]), if_neg (by decide)]
    refine Exists.intro _ (And.intro c_refused (And.intro (And.intro (Nat.zero_le _) (Nat.zero_le _)) (fun q h' hpo => ?_)))
    obtain ⟨rfl, rfl⟩ := hpo
    refine And.intro ?_ ⟨Or.inl rfl, Nat.le_refl _, Nat.le_refl _⟩
    exact x_QT_0 hT
  · have c1 : ¬ p < 0 := c1
    rw [x_lt, x_i0] at c1
    refine And.intro (fun c2 => ?_) (fun c2 => ?_)
    · have c2 : a < 0 := c2
      rw [x_lt, x_i0] at c2
      rw [bad (by unfold y_np; rw [decide_eq_false (by omega : ¬ 0 ≤ a.toInt), Bool.false_and, Bool.and_false]), if_neg (by decide)]
      refine Exists.intro _ (And.intro c_refused (And.intro (And.intro (Nat.zero_le _) (Nat.zero_le _)) (fun q h' hpo => ?_)))
      obtain ⟨rfl, rfl⟩ := hpo
      refine And.intro ?_ ⟨Or.inl rfl, Nat.le_refl _, Nat.le_refl _⟩
      exact x_QT_0 hT
    · have c2 : ¬ a < 0 := c2
      rw [x_lt, x_i0] at c2
      refine And.intro (fun c3 => ?_) (fun c3 => ?_)
      · have c3 : 0 ≤ m := c3
        rw [x_le, x_i0] at c3
        obtain ⟨o1, ho⟩ : ∃ o1, T.1 3 = o1 := ⟨_, rfl⟩
        obtain ⟨o2, ho2⟩ : ∃ o2, T.1 0 = o2 := ⟨_, rfl⟩
        have hg := good (by unfold y_np; rw [decide_eq_true (by omega : 0 ≤ p.toInt), decide_eq_true (by omega : 0 ≤ a.toInt), decide_eq_true c3]; rfl)
        rw [show y_po T (nI 3) p (nI 0) a m = y_pp o1 o2 p a m by rw [hg, ← ho, ← ho2]]
        rw [ho] at h1
        rw [ho2] at h2
        refine And.intro (x_ix_nI (by omega) (by omega)) ?_
        rw [nI_clamp (by omega)]
        refine And.intro (x_ix_nI (by omega) (by omega)) ?_
        rw [nI_clamp (by omega)]
        refine Exists.intro _ (And.intro c_isMissing_3 (And.intro (And.intro (Nat.zero_le _) (Nat.zero_le _)) (fun q h' hpo => ?_)))
        obtain ⟨rfl, rfl⟩ := hpo
        cases o1 with
        | none =>
          have h1 : f 8 1 = -1 := h1
          rw [decide_eq_true h1]
          refine And.intro (fun _ => ?_) (fun c => absurd c (by decide))
          rw [show y_pp none o2 p a m = 2 from rfl, if_neg (by decide)]
          refine Exists.intro _ (And.intro c_refused (And.intro (And.intro (Nat.zero_le _) (Nat.zero_le _)) (fun q h' hpo => ?_)))
          obtain ⟨rfl, rfl⟩ := hpo
          refine And.intro ?_ ⟨Or.inl rfl, Nat.le_refl _, Nat.le_refl _⟩
          exact x_QT_0 hT
        | some c =>
          obtain ⟨a1, a2, a3, a4, a5⟩ := h1
          have a1 : f 8 1 = nI c.2 := a1
          have a2 : f 8 2 = nI c.1 := a2
          rw [decide_eq_false (by rw [a1]; exact x_nIm (by omega))]
          refine And.intro (fun c => absurd rfl c) (fun _ => ?_)
          refine Exists.intro _ (And.intro c_isMissing_0 (And.intro (And.intro (Nat.zero_le _) (Nat.zero_le _)) (fun q h' hpo => ?_)))
          obtain ⟨rfl, rfl⟩ := hpo
          cases o2 with
          | none =>
            have h2 : f 2 1 = -1 := h2
            rw [decide_eq_true h2]
            refine And.intro (fun c => absurd c (by decide)) (fun _ => ?_)
            rw [show y_pp (some c) none p a m = 2 from rfl, if_neg (by decide)]
            refine Exists.intro _ (And.intro c_refused (And.intro (And.intro (Nat.zero_le _) (Nat.zero_le _)) (fun q h' hpo => ?_)))
            obtain ⟨rfl, rfl⟩ := hpo
            refine And.intro ?_ ⟨Or.inl rfl, Nat.le_refl _, Nat.le_refl _⟩
            exact x_QT_0 hT
          | some e =>
            obtain ⟨b1, b2, b3, b4, b5⟩ := h2
            have b1 : f 2 1 = nI e.2 := b1
            have b2 : f 2 2 = nI e.1 := b2
            rw [decide_eq_false (by rw [b1]; exact x_nIm (by omega))]
            refine And.intro (fun _ => ?_) (fun c => absurd rfl c)
            have ePP : y_pp (some c) (some e) p a m = if c.1 = e.1 then (if p.toInt + m.toInt ≤ c.2 ∧ a.toInt + m.toInt ≤ e.2 then 0 else 3) else 8 := rfl
            refine And.intro (fun c4 => ?_) (fun c4 => ?_)
            · have c4 : f 8 2 = f 2 2 := c4
              have c4 : nI c.1 = nI e.1 := a2.symm.trans (c4.trans b2)
              rw [nI_eq (by omega) (by omega)] at c4
              rw [if_pos c4] at ePP
              refine And.intro (fun c5 => ?_) (fun c5 => ?_)
              · have c5 : 0 < lg_cmp (p.toInt64 + m.toInt64) (f 8 1).toInt64 := c5
                rw [x_lg_gt, Int64.lt_iff_toInt_lt, x_ladd, x_l2, a1, nI_toInt (by omega)] at c5
                rw [if_neg (by omega)] at ePP
                rw [ePP, if_neg (by decide)]
                refine Exists.intro _ (And.intro c_refused (And.intro (And.intro (Nat.zero_le _) (Nat.zero_le _)) (fun q h' hpo => ?_)))
                obtain ⟨rfl, rfl⟩ := hpo
                refine And.intro ?_ ⟨Or.inl rfl, Nat.le_refl _, Nat.le_refl _⟩
                exact x_QT_0 hT
              · have c5 : ¬ 0 < lg_cmp (p.toInt64 + m.toInt64) (f 8 1).toInt64 := c5
                rw [x_lg_gt, Int64.lt_iff_toInt_lt, x_ladd, x_l2, a1, nI_toInt (by omega)] at c5
                refine And.intro (fun c6 => ?_) (fun c6 => ?_)
                · have c6 : lg_cmp (a.toInt64 + m.toInt64) (f 2 1).toInt64 ≤ 0 := c6
                  rw [← Int32.not_lt, x_lg_gt, Int64.lt_iff_toInt_lt, x_ladd, x_l2, b1, nI_toInt (by omega)] at c6
                  rw [if_pos (by omega)] at ePP
                  rw [ePP, if_pos rfl]
                  refine And.intro (by show 0 ≤ p.toInt ∧ 0 ≤ a.toInt ∧ 0 ≤ m.toInt ∧ p.toInt + m.toInt ≤ 60 ∧ a.toInt + m.toInt ≤ 60; omega) ?_
                  refine Exists.intro _ (And.intro c_agreed (And.intro (And.intro (Nat.zero_le _) (Nat.zero_le _)) (fun q h' hpo => ?_)))
                  obtain ⟨rfl, rfl⟩ := hpo
                  refine And.intro ?_ ⟨Or.inr rfl, Nat.le_refl _, Nat.le_refl _⟩
                  obtain ⟨p, hp, rfl⟩ := nI_of (x := p) (by rw [x_lt, x_i0]; omega)
                  obtain ⟨a, ha, rfl⟩ := nI_of (x := a) (by rw [x_lt, x_i0]; omega)
                  obtain ⟨m, hm, rfl⟩ := nI_of (x := m) (by rw [x_lt, x_i0]; omega)
                  rw [nI_toInt hp, nI_toInt hm] at c5
                  rw [nI_toInt ha, nI_toInt hm] at c6
                  rw [show x_c (nI p) = p from nI_clamp hp, show x_c (nI a) = a from nI_clamp ha, show x_c (nI m) = m from nI_clamp hm, show x_c (nI 0) = 0 from rfl]
                  try rw [show x_c (nI 3) = 3 from rfl]
                  rw [ho2]
                  try rw [nI_clamp hp]
                  try rw [nI_clamp ha]
                  try rw [nI_clamp hm]
                  refine x_QT_S (x_TC_set (F := f) (G := va_up g 3 (va_cpy (g 9) (g 3) p a m)) (i := 0) (c := some e) (u := va_cpy (T.2 3) (T.2 0) p a m) hT (fun _ _ => rfl) (fun k hk => x_un hk) ⟨b1, b2, b3, b4, fun k hk => ?_⟩) (fun _ _ => rfl) (fun k hk => x_un (by omega))
                  show va_up g 3 (va_cpy (g 9) (g 3) p a m) 3 k = va_cpy (T.2 3) (T.2 0) p a m k
                  rw [x_us]
                  unfold va_cpy
                  by_cases hc : a ≤ k ∧ k < a + m
                  · rw [if_pos hc, if_pos hc]
                    exact a5 _ (by omega)
                  · rw [if_neg hc, if_neg hc]
                    exact b5 k hk
                · have c6 : ¬ lg_cmp (a.toInt64 + m.toInt64) (f 2 1).toInt64 ≤ 0 := c6
                  rw [← Int32.not_lt, x_lg_gt, Int64.lt_iff_toInt_lt, x_ladd, x_l2, b1, nI_toInt (by omega)] at c6
                  rw [if_neg (by omega)] at ePP
                  rw [ePP, if_neg (by decide)]
                  refine Exists.intro _ (And.intro c_refused (And.intro (And.intro (Nat.zero_le _) (Nat.zero_le _)) (fun q h' hpo => ?_)))
                  obtain ⟨rfl, rfl⟩ := hpo
                  refine And.intro ?_ ⟨Or.inl rfl, Nat.le_refl _, Nat.le_refl _⟩
                  exact x_QT_0 hT
            · have c4 : ¬ f 8 2 = f 2 2 := c4
              have c4 : ¬ nI c.1 = nI e.1 := fun q => c4 (a2.trans (q.trans b2.symm))
              rw [nI_eq (by omega) (by omega)] at c4
              rw [if_neg c4] at ePP
              rw [ePP, if_neg (by decide)]
              refine Exists.intro _ (And.intro c_refused (And.intro (And.intro (Nat.zero_le _) (Nat.zero_le _)) (fun q h' hpo => ?_)))
              obtain ⟨rfl, rfl⟩ := hpo
              refine And.intro ?_ ⟨Or.inl rfl, Nat.le_refl _, Nat.le_refl _⟩
              exact x_QT_0 hT
      · have c3 : ¬ 0 ≤ m := c3
        rw [x_le, x_i0] at c3
        rw [bad (by unfold y_np; rw [decide_eq_false c3, Bool.and_false, Bool.and_false]), if_neg (by decide)]
        refine Exists.intro _ (And.intro c_refused (And.intro (And.intro (Nat.zero_le _) (Nat.zero_le _)) (fun q h' hpo => ?_)))
        obtain ⟨rfl, rfl⟩ := hpo
        refine And.intro ?_ ⟨Or.inl rfl, Nat.le_refl _, Nat.le_refl _⟩
        exact x_QT_0 hT
theorem c_pour_3_1 {p a m : Int32} (hT : x_TC f g T) : x_Ct 103 (d + 2) [.ref 0, .int (nI 3), .int p, .int (nI 1), .int a, .int m] (f, g, x_HR r t, dm, n) (x_QT f g (x_HR r t) dm n (st_pour T (nI 3) p (nI 1) a m)) := by
  have h1 := hT 3 (by decide)
  have h2 := hT 1 (by decide)
  have bad : (y_np p && (y_np a && y_np m)) = false → y_po T (nI 3) p (nI 1) a m = 1 := by
    intro hb
    unfold y_po
    rw [hb]
    exact if_neg (by decide)
  have good : (y_np p && (y_np a && y_np m)) = true → y_po T (nI 3) p (nI 1) a m = y_pp (T.1 3) (T.1 1) p a m := by
    intro hb
    unfold y_po
    rw [hb]
    exact if_pos (by decide)
  unfold st_pour
  refine x_Ct_w (by decide) (Nat.le_of_ble_eq_true rfl) ok103 [] 12 ?_
  refine Exists.intro _ (And.intro c_isTray (And.intro (And.intro (Nat.zero_le _) (Nat.zero_le _)) (fun q h' hpo => ?_)))
  obtain ⟨rfl, rfl⟩ := hpo
  refine And.intro (fun c => absurd c (by decide)) (fun _ => ?_)
  refine Exists.intro _ (And.intro c_isTray (And.intro (And.intro (Nat.zero_le _) (Nat.zero_le _)) (fun q h' hpo => ?_)))
  obtain ⟨rfl, rfl⟩ := hpo
  refine And.intro (fun c => absurd c (by decide)) (fun _ => ?_)
  refine And.intro (fun c1 => ?_) (fun c1 => ?_)
  · have c1 : p < 0 := c1
    rw [x_lt, x_i0] at c1
    rw [bad (by unfold y_np; rw [decide_eq_false (by omega : ¬ 0 ≤ p.toInt), Bool.false_and]), if_neg (by decide)]
    refine Exists.intro _ (And.intro c_refused (And.intro (And.intro (Nat.zero_le _) (Nat.zero_le _)) (fun q h' hpo => ?_)))
    obtain ⟨rfl, rfl⟩ := hpo
    refine And.intro ?_ ⟨Or.inl rfl, Nat.le_refl _, Nat.le_refl _⟩
    exact x_QT_0 hT
  · have c1 : ¬ p < 0 := c1
    rw [x_lt, x_i0] at c1
    refine And.intro (fun c2 => ?_) (fun c2 => ?_)
    · have c2 : a < 0 := c2
      rw [x_lt, x_i0] at c2
      rw [bad (by unfold y_np; rw [decide_eq_false (by omega : ¬ 0 ≤ a.toInt), Bool.false_and, Bool.and_false]), if_neg (by decide)]
      refine Exists.intro _ (And.intro c_refused (And.intro (And.intro (Nat.zero_le _) (Nat.zero_le _)) (fun q h' hpo => ?_)))
      obtain ⟨rfl, rfl⟩ := hpo
      refine And.intro ?_ ⟨Or.inl rfl, Nat.le_refl _, Nat.le_refl _⟩
      exact x_QT_0 hT
    · have c2 : ¬ a < 0 := c2
      rw [x_lt, x_i0] at c2
      refine And.intro (fun c3 => ?_) (fun c3 => ?_)
      · have c3 : 0 ≤ m := c3
        rw [x_le, x_i0] at c3
        obtain ⟨o1, ho⟩ : ∃ o1, T.1 3 = o1 := ⟨_, rfl⟩
        obtain ⟨o2, ho2⟩ : ∃ o2, T.1 1 = o2 := ⟨_, rfl⟩
        have hg := good (by unfold y_np; rw [decide_eq_true (by omega : 0 ≤ p.toInt), decide_eq_true (by omega : 0 ≤ a.toInt), decide_eq_true c3]; rfl)
        rw [show y_po T (nI 3) p (nI 1) a m = y_pp o1 o2 p a m by rw [hg, ← ho, ← ho2]]
        rw [ho] at h1
        rw [ho2] at h2
        refine And.intro (x_ix_nI (by omega) (by omega)) ?_
        rw [nI_clamp (by omega)]
        refine And.intro (x_ix_nI (by omega) (by omega)) ?_
        rw [nI_clamp (by omega)]
        refine Exists.intro _ (And.intro c_isMissing_3 (And.intro (And.intro (Nat.zero_le _) (Nat.zero_le _)) (fun q h' hpo => ?_)))
        obtain ⟨rfl, rfl⟩ := hpo
        cases o1 with
        | none =>
          have h1 : f 8 1 = -1 := h1
          rw [decide_eq_true h1]
          refine And.intro (fun _ => ?_) (fun c => absurd c (by decide))
          rw [show y_pp none o2 p a m = 2 from rfl, if_neg (by decide)]
          refine Exists.intro _ (And.intro c_refused (And.intro (And.intro (Nat.zero_le _) (Nat.zero_le _)) (fun q h' hpo => ?_)))
          obtain ⟨rfl, rfl⟩ := hpo
          refine And.intro ?_ ⟨Or.inl rfl, Nat.le_refl _, Nat.le_refl _⟩
          exact x_QT_0 hT
        | some c =>
          obtain ⟨a1, a2, a3, a4, a5⟩ := h1
          have a1 : f 8 1 = nI c.2 := a1
          have a2 : f 8 2 = nI c.1 := a2
          rw [decide_eq_false (by rw [a1]; exact x_nIm (by omega))]
          refine And.intro (fun c => absurd rfl c) (fun _ => ?_)
          refine Exists.intro _ (And.intro c_isMissing_1 (And.intro (And.intro (Nat.zero_le _) (Nat.zero_le _)) (fun q h' hpo => ?_)))
          obtain ⟨rfl, rfl⟩ := hpo
          cases o2 with
          | none =>
            have h2 : f 4 1 = -1 := h2
            rw [decide_eq_true h2]
            refine And.intro (fun c => absurd c (by decide)) (fun _ => ?_)
            rw [show y_pp (some c) none p a m = 2 from rfl, if_neg (by decide)]
            refine Exists.intro _ (And.intro c_refused (And.intro (And.intro (Nat.zero_le _) (Nat.zero_le _)) (fun q h' hpo => ?_)))
            obtain ⟨rfl, rfl⟩ := hpo
            refine And.intro ?_ ⟨Or.inl rfl, Nat.le_refl _, Nat.le_refl _⟩
            exact x_QT_0 hT
          | some e =>
            obtain ⟨b1, b2, b3, b4, b5⟩ := h2
            have b1 : f 4 1 = nI e.2 := b1
            have b2 : f 4 2 = nI e.1 := b2
            rw [decide_eq_false (by rw [b1]; exact x_nIm (by omega))]
            refine And.intro (fun _ => ?_) (fun c => absurd rfl c)
            have ePP : y_pp (some c) (some e) p a m = if c.1 = e.1 then (if p.toInt + m.toInt ≤ c.2 ∧ a.toInt + m.toInt ≤ e.2 then 0 else 3) else 8 := rfl
            refine And.intro (fun c4 => ?_) (fun c4 => ?_)
            · have c4 : f 8 2 = f 4 2 := c4
              have c4 : nI c.1 = nI e.1 := a2.symm.trans (c4.trans b2)
              rw [nI_eq (by omega) (by omega)] at c4
              rw [if_pos c4] at ePP
              refine And.intro (fun c5 => ?_) (fun c5 => ?_)
              · have c5 : 0 < lg_cmp (p.toInt64 + m.toInt64) (f 8 1).toInt64 := c5
                rw [x_lg_gt, Int64.lt_iff_toInt_lt, x_ladd, x_l2, a1, nI_toInt (by omega)] at c5
                rw [if_neg (by omega)] at ePP
                rw [ePP, if_neg (by decide)]
                refine Exists.intro _ (And.intro c_refused (And.intro (And.intro (Nat.zero_le _) (Nat.zero_le _)) (fun q h' hpo => ?_)))
                obtain ⟨rfl, rfl⟩ := hpo
                refine And.intro ?_ ⟨Or.inl rfl, Nat.le_refl _, Nat.le_refl _⟩
                exact x_QT_0 hT
              · have c5 : ¬ 0 < lg_cmp (p.toInt64 + m.toInt64) (f 8 1).toInt64 := c5
                rw [x_lg_gt, Int64.lt_iff_toInt_lt, x_ladd, x_l2, a1, nI_toInt (by omega)] at c5
                refine And.intro (fun c6 => ?_) (fun c6 => ?_)
                · have c6 : lg_cmp (a.toInt64 + m.toInt64) (f 4 1).toInt64 ≤ 0 := c6
                  rw [← Int32.not_lt, x_lg_gt, Int64.lt_iff_toInt_lt, x_ladd, x_l2, b1, nI_toInt (by omega)] at c6
                  rw [if_pos (by omega)] at ePP
                  rw [ePP, if_pos rfl]
                  refine And.intro (by show 0 ≤ p.toInt ∧ 0 ≤ a.toInt ∧ 0 ≤ m.toInt ∧ p.toInt + m.toInt ≤ 60 ∧ a.toInt + m.toInt ≤ 60; omega) ?_
                  refine Exists.intro _ (And.intro c_agreed (And.intro (And.intro (Nat.zero_le _) (Nat.zero_le _)) (fun q h' hpo => ?_)))
                  obtain ⟨rfl, rfl⟩ := hpo
                  refine And.intro ?_ ⟨Or.inr rfl, Nat.le_refl _, Nat.le_refl _⟩
                  obtain ⟨p, hp, rfl⟩ := nI_of (x := p) (by rw [x_lt, x_i0]; omega)
                  obtain ⟨a, ha, rfl⟩ := nI_of (x := a) (by rw [x_lt, x_i0]; omega)
                  obtain ⟨m, hm, rfl⟩ := nI_of (x := m) (by rw [x_lt, x_i0]; omega)
                  rw [nI_toInt hp, nI_toInt hm] at c5
                  rw [nI_toInt ha, nI_toInt hm] at c6
                  rw [show x_c (nI p) = p from nI_clamp hp, show x_c (nI a) = a from nI_clamp ha, show x_c (nI m) = m from nI_clamp hm, show x_c (nI 1) = 1 from rfl]
                  try rw [show x_c (nI 3) = 3 from rfl]
                  rw [ho2]
                  try rw [nI_clamp hp]
                  try rw [nI_clamp ha]
                  try rw [nI_clamp hm]
                  refine x_QT_S (x_TC_set (F := f) (G := va_up g 5 (va_cpy (g 9) (g 5) p a m)) (i := 1) (c := some e) (u := va_cpy (T.2 3) (T.2 1) p a m) hT (fun _ _ => rfl) (fun k hk => x_un hk) ⟨b1, b2, b3, b4, fun k hk => ?_⟩) (fun _ _ => rfl) (fun k hk => x_un (by omega))
                  show va_up g 5 (va_cpy (g 9) (g 5) p a m) 5 k = va_cpy (T.2 3) (T.2 1) p a m k
                  rw [x_us]
                  unfold va_cpy
                  by_cases hc : a ≤ k ∧ k < a + m
                  · rw [if_pos hc, if_pos hc]
                    exact a5 _ (by omega)
                  · rw [if_neg hc, if_neg hc]
                    exact b5 k hk
                · have c6 : ¬ lg_cmp (a.toInt64 + m.toInt64) (f 4 1).toInt64 ≤ 0 := c6
                  rw [← Int32.not_lt, x_lg_gt, Int64.lt_iff_toInt_lt, x_ladd, x_l2, b1, nI_toInt (by omega)] at c6
                  rw [if_neg (by omega)] at ePP
                  rw [ePP, if_neg (by decide)]
                  refine Exists.intro _ (And.intro c_refused (And.intro (And.intro (Nat.zero_le _) (Nat.zero_le _)) (fun q h' hpo => ?_)))
                  obtain ⟨rfl, rfl⟩ := hpo
                  refine And.intro ?_ ⟨Or.inl rfl, Nat.le_refl _, Nat.le_refl _⟩
                  exact x_QT_0 hT
            · have c4 : ¬ f 8 2 = f 4 2 := c4
              have c4 : ¬ nI c.1 = nI e.1 := fun q => c4 (a2.trans (q.trans b2.symm))
              rw [nI_eq (by omega) (by omega)] at c4
              rw [if_neg c4] at ePP
              rw [ePP, if_neg (by decide)]
              refine Exists.intro _ (And.intro c_refused (And.intro (And.intro (Nat.zero_le _) (Nat.zero_le _)) (fun q h' hpo => ?_)))
              obtain ⟨rfl, rfl⟩ := hpo
              refine And.intro ?_ ⟨Or.inl rfl, Nat.le_refl _, Nat.le_refl _⟩
              exact x_QT_0 hT
      · have c3 : ¬ 0 ≤ m := c3
        rw [x_le, x_i0] at c3
        rw [bad (by unfold y_np; rw [decide_eq_false c3, Bool.and_false, Bool.and_false]), if_neg (by decide)]
        refine Exists.intro _ (And.intro c_refused (And.intro (And.intro (Nat.zero_le _) (Nat.zero_le _)) (fun q h' hpo => ?_)))
        obtain ⟨rfl, rfl⟩ := hpo
        refine And.intro ?_ ⟨Or.inl rfl, Nat.le_refl _, Nat.le_refl _⟩
        exact x_QT_0 hT
theorem c_pour_3_2 {p a m : Int32} (hT : x_TC f g T) : x_Ct 103 (d + 2) [.ref 0, .int (nI 3), .int p, .int (nI 2), .int a, .int m] (f, g, x_HR r t, dm, n) (x_QT f g (x_HR r t) dm n (st_pour T (nI 3) p (nI 2) a m)) := by
  have h1 := hT 3 (by decide)
  have h2 := hT 2 (by decide)
  have bad : (y_np p && (y_np a && y_np m)) = false → y_po T (nI 3) p (nI 2) a m = 1 := by
    intro hb
    unfold y_po
    rw [hb]
    exact if_neg (by decide)
  have good : (y_np p && (y_np a && y_np m)) = true → y_po T (nI 3) p (nI 2) a m = y_pp (T.1 3) (T.1 2) p a m := by
    intro hb
    unfold y_po
    rw [hb]
    exact if_pos (by decide)
  unfold st_pour
  refine x_Ct_w (by decide) (Nat.le_of_ble_eq_true rfl) ok103 [] 12 ?_
  refine Exists.intro _ (And.intro c_isTray (And.intro (And.intro (Nat.zero_le _) (Nat.zero_le _)) (fun q h' hpo => ?_)))
  obtain ⟨rfl, rfl⟩ := hpo
  refine And.intro (fun c => absurd c (by decide)) (fun _ => ?_)
  refine Exists.intro _ (And.intro c_isTray (And.intro (And.intro (Nat.zero_le _) (Nat.zero_le _)) (fun q h' hpo => ?_)))
  obtain ⟨rfl, rfl⟩ := hpo
  refine And.intro (fun c => absurd c (by decide)) (fun _ => ?_)
  refine And.intro (fun c1 => ?_) (fun c1 => ?_)
  · have c1 : p < 0 := c1
    rw [x_lt, x_i0] at c1
    rw [bad (by unfold y_np; rw [decide_eq_false (by omega : ¬ 0 ≤ p.toInt), Bool.false_and]), if_neg (by decide)]
    refine Exists.intro _ (And.intro c_refused (And.intro (And.intro (Nat.zero_le _) (Nat.zero_le _)) (fun q h' hpo => ?_)))
    obtain ⟨rfl, rfl⟩ := hpo
    refine And.intro ?_ ⟨Or.inl rfl, Nat.le_refl _, Nat.le_refl _⟩
    exact x_QT_0 hT
  · have c1 : ¬ p < 0 := c1
    rw [x_lt, x_i0] at c1
    refine And.intro (fun c2 => ?_) (fun c2 => ?_)
    · have c2 : a < 0 := c2
      rw [x_lt, x_i0] at c2
      rw [bad (by unfold y_np; rw [decide_eq_false (by omega : ¬ 0 ≤ a.toInt), Bool.false_and, Bool.and_false]), if_neg (by decide)]
      refine Exists.intro _ (And.intro c_refused (And.intro (And.intro (Nat.zero_le _) (Nat.zero_le _)) (fun q h' hpo => ?_)))
      obtain ⟨rfl, rfl⟩ := hpo
      refine And.intro ?_ ⟨Or.inl rfl, Nat.le_refl _, Nat.le_refl _⟩
      exact x_QT_0 hT
    · have c2 : ¬ a < 0 := c2
      rw [x_lt, x_i0] at c2
      refine And.intro (fun c3 => ?_) (fun c3 => ?_)
      · have c3 : 0 ≤ m := c3
        rw [x_le, x_i0] at c3
        obtain ⟨o1, ho⟩ : ∃ o1, T.1 3 = o1 := ⟨_, rfl⟩
        obtain ⟨o2, ho2⟩ : ∃ o2, T.1 2 = o2 := ⟨_, rfl⟩
        have hg := good (by unfold y_np; rw [decide_eq_true (by omega : 0 ≤ p.toInt), decide_eq_true (by omega : 0 ≤ a.toInt), decide_eq_true c3]; rfl)
        rw [show y_po T (nI 3) p (nI 2) a m = y_pp o1 o2 p a m by rw [hg, ← ho, ← ho2]]
        rw [ho] at h1
        rw [ho2] at h2
        refine And.intro (x_ix_nI (by omega) (by omega)) ?_
        rw [nI_clamp (by omega)]
        refine And.intro (x_ix_nI (by omega) (by omega)) ?_
        rw [nI_clamp (by omega)]
        refine Exists.intro _ (And.intro c_isMissing_3 (And.intro (And.intro (Nat.zero_le _) (Nat.zero_le _)) (fun q h' hpo => ?_)))
        obtain ⟨rfl, rfl⟩ := hpo
        cases o1 with
        | none =>
          have h1 : f 8 1 = -1 := h1
          rw [decide_eq_true h1]
          refine And.intro (fun _ => ?_) (fun c => absurd c (by decide))
          rw [show y_pp none o2 p a m = 2 from rfl, if_neg (by decide)]
          refine Exists.intro _ (And.intro c_refused (And.intro (And.intro (Nat.zero_le _) (Nat.zero_le _)) (fun q h' hpo => ?_)))
          obtain ⟨rfl, rfl⟩ := hpo
          refine And.intro ?_ ⟨Or.inl rfl, Nat.le_refl _, Nat.le_refl _⟩
          exact x_QT_0 hT
        | some c =>
          obtain ⟨a1, a2, a3, a4, a5⟩ := h1
          have a1 : f 8 1 = nI c.2 := a1
          have a2 : f 8 2 = nI c.1 := a2
          rw [decide_eq_false (by rw [a1]; exact x_nIm (by omega))]
          refine And.intro (fun c => absurd rfl c) (fun _ => ?_)
          refine Exists.intro _ (And.intro c_isMissing_2 (And.intro (And.intro (Nat.zero_le _) (Nat.zero_le _)) (fun q h' hpo => ?_)))
          obtain ⟨rfl, rfl⟩ := hpo
          cases o2 with
          | none =>
            have h2 : f 6 1 = -1 := h2
            rw [decide_eq_true h2]
            refine And.intro (fun c => absurd c (by decide)) (fun _ => ?_)
            rw [show y_pp (some c) none p a m = 2 from rfl, if_neg (by decide)]
            refine Exists.intro _ (And.intro c_refused (And.intro (And.intro (Nat.zero_le _) (Nat.zero_le _)) (fun q h' hpo => ?_)))
            obtain ⟨rfl, rfl⟩ := hpo
            refine And.intro ?_ ⟨Or.inl rfl, Nat.le_refl _, Nat.le_refl _⟩
            exact x_QT_0 hT
          | some e =>
            obtain ⟨b1, b2, b3, b4, b5⟩ := h2
            have b1 : f 6 1 = nI e.2 := b1
            have b2 : f 6 2 = nI e.1 := b2
            rw [decide_eq_false (by rw [b1]; exact x_nIm (by omega))]
            refine And.intro (fun _ => ?_) (fun c => absurd rfl c)
            have ePP : y_pp (some c) (some e) p a m = if c.1 = e.1 then (if p.toInt + m.toInt ≤ c.2 ∧ a.toInt + m.toInt ≤ e.2 then 0 else 3) else 8 := rfl
            refine And.intro (fun c4 => ?_) (fun c4 => ?_)
            · have c4 : f 8 2 = f 6 2 := c4
              have c4 : nI c.1 = nI e.1 := a2.symm.trans (c4.trans b2)
              rw [nI_eq (by omega) (by omega)] at c4
              rw [if_pos c4] at ePP
              refine And.intro (fun c5 => ?_) (fun c5 => ?_)
              · have c5 : 0 < lg_cmp (p.toInt64 + m.toInt64) (f 8 1).toInt64 := c5
                rw [x_lg_gt, Int64.lt_iff_toInt_lt, x_ladd, x_l2, a1, nI_toInt (by omega)] at c5
                rw [if_neg (by omega)] at ePP
                rw [ePP, if_neg (by decide)]
                refine Exists.intro _ (And.intro c_refused (And.intro (And.intro (Nat.zero_le _) (Nat.zero_le _)) (fun q h' hpo => ?_)))
                obtain ⟨rfl, rfl⟩ := hpo
                refine And.intro ?_ ⟨Or.inl rfl, Nat.le_refl _, Nat.le_refl _⟩
                exact x_QT_0 hT
              · have c5 : ¬ 0 < lg_cmp (p.toInt64 + m.toInt64) (f 8 1).toInt64 := c5
                rw [x_lg_gt, Int64.lt_iff_toInt_lt, x_ladd, x_l2, a1, nI_toInt (by omega)] at c5
                refine And.intro (fun c6 => ?_) (fun c6 => ?_)
                · have c6 : lg_cmp (a.toInt64 + m.toInt64) (f 6 1).toInt64 ≤ 0 := c6
                  rw [← Int32.not_lt, x_lg_gt, Int64.lt_iff_toInt_lt, x_ladd, x_l2, b1, nI_toInt (by omega)] at c6
                  rw [if_pos (by omega)] at ePP
                  rw [ePP, if_pos rfl]
                  refine And.intro (by show 0 ≤ p.toInt ∧ 0 ≤ a.toInt ∧ 0 ≤ m.toInt ∧ p.toInt + m.toInt ≤ 60 ∧ a.toInt + m.toInt ≤ 60; omega) ?_
                  refine Exists.intro _ (And.intro c_agreed (And.intro (And.intro (Nat.zero_le _) (Nat.zero_le _)) (fun q h' hpo => ?_)))
                  obtain ⟨rfl, rfl⟩ := hpo
                  refine And.intro ?_ ⟨Or.inr rfl, Nat.le_refl _, Nat.le_refl _⟩
                  obtain ⟨p, hp, rfl⟩ := nI_of (x := p) (by rw [x_lt, x_i0]; omega)
                  obtain ⟨a, ha, rfl⟩ := nI_of (x := a) (by rw [x_lt, x_i0]; omega)
                  obtain ⟨m, hm, rfl⟩ := nI_of (x := m) (by rw [x_lt, x_i0]; omega)
                  rw [nI_toInt hp, nI_toInt hm] at c5
                  rw [nI_toInt ha, nI_toInt hm] at c6
                  rw [show x_c (nI p) = p from nI_clamp hp, show x_c (nI a) = a from nI_clamp ha, show x_c (nI m) = m from nI_clamp hm, show x_c (nI 2) = 2 from rfl]
                  try rw [show x_c (nI 3) = 3 from rfl]
                  rw [ho2]
                  try rw [nI_clamp hp]
                  try rw [nI_clamp ha]
                  try rw [nI_clamp hm]
                  refine x_QT_S (x_TC_set (F := f) (G := va_up g 7 (va_cpy (g 9) (g 7) p a m)) (i := 2) (c := some e) (u := va_cpy (T.2 3) (T.2 2) p a m) hT (fun _ _ => rfl) (fun k hk => x_un hk) ⟨b1, b2, b3, b4, fun k hk => ?_⟩) (fun _ _ => rfl) (fun k hk => x_un (by omega))
                  show va_up g 7 (va_cpy (g 9) (g 7) p a m) 7 k = va_cpy (T.2 3) (T.2 2) p a m k
                  rw [x_us]
                  unfold va_cpy
                  by_cases hc : a ≤ k ∧ k < a + m
                  · rw [if_pos hc, if_pos hc]
                    exact a5 _ (by omega)
                  · rw [if_neg hc, if_neg hc]
                    exact b5 k hk
                · have c6 : ¬ lg_cmp (a.toInt64 + m.toInt64) (f 6 1).toInt64 ≤ 0 := c6
                  rw [← Int32.not_lt, x_lg_gt, Int64.lt_iff_toInt_lt, x_ladd, x_l2, b1, nI_toInt (by omega)] at c6
                  rw [if_neg (by omega)] at ePP
                  rw [ePP, if_neg (by decide)]
                  refine Exists.intro _ (And.intro c_refused (And.intro (And.intro (Nat.zero_le _) (Nat.zero_le _)) (fun q h' hpo => ?_)))
                  obtain ⟨rfl, rfl⟩ := hpo
                  refine And.intro ?_ ⟨Or.inl rfl, Nat.le_refl _, Nat.le_refl _⟩
                  exact x_QT_0 hT
            · have c4 : ¬ f 8 2 = f 6 2 := c4
              have c4 : ¬ nI c.1 = nI e.1 := fun q => c4 (a2.trans (q.trans b2.symm))
              rw [nI_eq (by omega) (by omega)] at c4
              rw [if_neg c4] at ePP
              rw [ePP, if_neg (by decide)]
              refine Exists.intro _ (And.intro c_refused (And.intro (And.intro (Nat.zero_le _) (Nat.zero_le _)) (fun q h' hpo => ?_)))
              obtain ⟨rfl, rfl⟩ := hpo
              refine And.intro ?_ ⟨Or.inl rfl, Nat.le_refl _, Nat.le_refl _⟩
              exact x_QT_0 hT
      · have c3 : ¬ 0 ≤ m := c3
        rw [x_le, x_i0] at c3
        rw [bad (by unfold y_np; rw [decide_eq_false c3, Bool.and_false, Bool.and_false]), if_neg (by decide)]
        refine Exists.intro _ (And.intro c_refused (And.intro (And.intro (Nat.zero_le _) (Nat.zero_le _)) (fun q h' hpo => ?_)))
        obtain ⟨rfl, rfl⟩ := hpo
        refine And.intro ?_ ⟨Or.inl rfl, Nat.le_refl _, Nat.le_refl _⟩
        exact x_QT_0 hT
theorem c_pour_3_3 {p a m : Int32} (hT : x_TC f g T) : x_Ct 103 (d + 2) [.ref 0, .int (nI 3), .int p, .int (nI 3), .int a, .int m] (f, g, x_HR r t, dm, n) (x_QT f g (x_HR r t) dm n (st_pour T (nI 3) p (nI 3) a m)) := by
  have h1 := hT 3 (by decide)
  have h2 := hT 3 (by decide)
  have bad : (y_np p && (y_np a && y_np m)) = false → y_po T (nI 3) p (nI 3) a m = 1 := by
    intro hb
    unfold y_po
    rw [hb]
    exact if_neg (by decide)
  have good : (y_np p && (y_np a && y_np m)) = true → y_po T (nI 3) p (nI 3) a m = y_pp (T.1 3) (T.1 3) p a m := by
    intro hb
    unfold y_po
    rw [hb]
    exact if_pos (by decide)
  unfold st_pour
  refine x_Ct_w (by decide) (Nat.le_of_ble_eq_true rfl) ok103 [] 12 ?_
  refine Exists.intro _ (And.intro c_isTray (And.intro (And.intro (Nat.zero_le _) (Nat.zero_le _)) (fun q h' hpo => ?_)))
  obtain ⟨rfl, rfl⟩ := hpo
  refine And.intro (fun c => absurd c (by decide)) (fun _ => ?_)
  refine Exists.intro _ (And.intro c_isTray (And.intro (And.intro (Nat.zero_le _) (Nat.zero_le _)) (fun q h' hpo => ?_)))
  obtain ⟨rfl, rfl⟩ := hpo
  refine And.intro (fun c => absurd c (by decide)) (fun _ => ?_)
  refine And.intro (fun c1 => ?_) (fun c1 => ?_)
  · have c1 : p < 0 := c1
    rw [x_lt, x_i0] at c1
    rw [bad (by unfold y_np; rw [decide_eq_false (by omega : ¬ 0 ≤ p.toInt), Bool.false_and]), if_neg (by decide)]
    refine Exists.intro _ (And.intro c_refused (And.intro (And.intro (Nat.zero_le _) (Nat.zero_le _)) (fun q h' hpo => ?_)))
    obtain ⟨rfl, rfl⟩ := hpo
    refine And.intro ?_ ⟨Or.inl rfl, Nat.le_refl _, Nat.le_refl _⟩
    exact x_QT_0 hT
  · have c1 : ¬ p < 0 := c1
    rw [x_lt, x_i0] at c1
    refine And.intro (fun c2 => ?_) (fun c2 => ?_)
    · have c2 : a < 0 := c2
      rw [x_lt, x_i0] at c2
      rw [bad (by unfold y_np; rw [decide_eq_false (by omega : ¬ 0 ≤ a.toInt), Bool.false_and, Bool.and_false]), if_neg (by decide)]
      refine Exists.intro _ (And.intro c_refused (And.intro (And.intro (Nat.zero_le _) (Nat.zero_le _)) (fun q h' hpo => ?_)))
      obtain ⟨rfl, rfl⟩ := hpo
      refine And.intro ?_ ⟨Or.inl rfl, Nat.le_refl _, Nat.le_refl _⟩
      exact x_QT_0 hT
    · have c2 : ¬ a < 0 := c2
      rw [x_lt, x_i0] at c2
      refine And.intro (fun c3 => ?_) (fun c3 => ?_)
      · have c3 : 0 ≤ m := c3
        rw [x_le, x_i0] at c3
        obtain ⟨o1, ho⟩ : ∃ o1, T.1 3 = o1 := ⟨_, rfl⟩
        obtain ⟨o2, ho2⟩ : ∃ o2, T.1 3 = o2 := ⟨_, rfl⟩
        have hg := good (by unfold y_np; rw [decide_eq_true (by omega : 0 ≤ p.toInt), decide_eq_true (by omega : 0 ≤ a.toInt), decide_eq_true c3]; rfl)
        rw [show y_po T (nI 3) p (nI 3) a m = y_pp o1 o2 p a m by rw [hg, ← ho, ← ho2]]
        rw [ho] at h1
        rw [ho2] at h2
        refine And.intro (x_ix_nI (by omega) (by omega)) ?_
        rw [nI_clamp (by omega)]
        refine And.intro (x_ix_nI (by omega) (by omega)) ?_
        rw [nI_clamp (by omega)]
        refine Exists.intro _ (And.intro c_isMissing_3 (And.intro (And.intro (Nat.zero_le _) (Nat.zero_le _)) (fun q h' hpo => ?_)))
        obtain ⟨rfl, rfl⟩ := hpo
        cases o1 with
        | none =>
          have h1 : f 8 1 = -1 := h1
          rw [decide_eq_true h1]
          refine And.intro (fun _ => ?_) (fun c => absurd c (by decide))
          rw [show y_pp none o2 p a m = 2 from rfl, if_neg (by decide)]
          refine Exists.intro _ (And.intro c_refused (And.intro (And.intro (Nat.zero_le _) (Nat.zero_le _)) (fun q h' hpo => ?_)))
          obtain ⟨rfl, rfl⟩ := hpo
          refine And.intro ?_ ⟨Or.inl rfl, Nat.le_refl _, Nat.le_refl _⟩
          exact x_QT_0 hT
        | some c =>
          obtain ⟨a1, a2, a3, a4, a5⟩ := h1
          have a1 : f 8 1 = nI c.2 := a1
          have a2 : f 8 2 = nI c.1 := a2
          rw [decide_eq_false (by rw [a1]; exact x_nIm (by omega))]
          refine And.intro (fun c => absurd rfl c) (fun _ => ?_)
          refine Exists.intro _ (And.intro c_isMissing_3 (And.intro (And.intro (Nat.zero_le _) (Nat.zero_le _)) (fun q h' hpo => ?_)))
          obtain ⟨rfl, rfl⟩ := hpo
          cases o2 with
          | none =>
            have h2 : f 8 1 = -1 := h2
            rw [decide_eq_true h2]
            refine And.intro (fun c => absurd c (by decide)) (fun _ => ?_)
            rw [show y_pp (some c) none p a m = 2 from rfl, if_neg (by decide)]
            refine Exists.intro _ (And.intro c_refused (And.intro (And.intro (Nat.zero_le _) (Nat.zero_le _)) (fun q h' hpo => ?_)))
            obtain ⟨rfl, rfl⟩ := hpo
            refine And.intro ?_ ⟨Or.inl rfl, Nat.le_refl _, Nat.le_refl _⟩
            exact x_QT_0 hT
          | some e =>
            obtain ⟨b1, b2, b3, b4, b5⟩ := h2
            have b1 : f 8 1 = nI e.2 := b1
            have b2 : f 8 2 = nI e.1 := b2
            rw [decide_eq_false (by rw [b1]; exact x_nIm (by omega))]
            refine And.intro (fun _ => ?_) (fun c => absurd rfl c)
            have ePP : y_pp (some c) (some e) p a m = if c.1 = e.1 then (if p.toInt + m.toInt ≤ c.2 ∧ a.toInt + m.toInt ≤ e.2 then 0 else 3) else 8 := rfl
            refine And.intro (fun c4 => ?_) (fun c4 => ?_)
            · have c4 : f 8 2 = f 8 2 := c4
              have c4 : nI c.1 = nI e.1 := a2.symm.trans (c4.trans b2)
              rw [nI_eq (by omega) (by omega)] at c4
              rw [if_pos c4] at ePP
              refine And.intro (fun c5 => ?_) (fun c5 => ?_)
              · have c5 : 0 < lg_cmp (p.toInt64 + m.toInt64) (f 8 1).toInt64 := c5
                rw [x_lg_gt, Int64.lt_iff_toInt_lt, x_ladd, x_l2, a1, nI_toInt (by omega)] at c5
                rw [if_neg (by omega)] at ePP
                rw [ePP, if_neg (by decide)]
                refine Exists.intro _ (And.intro c_refused (And.intro (And.intro (Nat.zero_le _) (Nat.zero_le _)) (fun q h' hpo => ?_)))
                obtain ⟨rfl, rfl⟩ := hpo
                refine And.intro ?_ ⟨Or.inl rfl, Nat.le_refl _, Nat.le_refl _⟩
                exact x_QT_0 hT
              · have c5 : ¬ 0 < lg_cmp (p.toInt64 + m.toInt64) (f 8 1).toInt64 := c5
                rw [x_lg_gt, Int64.lt_iff_toInt_lt, x_ladd, x_l2, a1, nI_toInt (by omega)] at c5
                refine And.intro (fun c6 => ?_) (fun c6 => ?_)
                · have c6 : lg_cmp (a.toInt64 + m.toInt64) (f 8 1).toInt64 ≤ 0 := c6
                  rw [← Int32.not_lt, x_lg_gt, Int64.lt_iff_toInt_lt, x_ladd, x_l2, b1, nI_toInt (by omega)] at c6
                  rw [if_pos (by omega)] at ePP
                  rw [ePP, if_pos rfl]
                  refine And.intro (by show 0 ≤ p.toInt ∧ 0 ≤ a.toInt ∧ 0 ≤ m.toInt ∧ p.toInt + m.toInt ≤ 60 ∧ a.toInt + m.toInt ≤ 60; omega) ?_
                  refine Exists.intro _ (And.intro c_agreed (And.intro (And.intro (Nat.zero_le _) (Nat.zero_le _)) (fun q h' hpo => ?_)))
                  obtain ⟨rfl, rfl⟩ := hpo
                  refine And.intro ?_ ⟨Or.inr rfl, Nat.le_refl _, Nat.le_refl _⟩
                  obtain ⟨p, hp, rfl⟩ := nI_of (x := p) (by rw [x_lt, x_i0]; omega)
                  obtain ⟨a, ha, rfl⟩ := nI_of (x := a) (by rw [x_lt, x_i0]; omega)
                  obtain ⟨m, hm, rfl⟩ := nI_of (x := m) (by rw [x_lt, x_i0]; omega)
                  rw [nI_toInt hp, nI_toInt hm] at c5
                  rw [nI_toInt ha, nI_toInt hm] at c6
                  rw [show x_c (nI p) = p from nI_clamp hp, show x_c (nI a) = a from nI_clamp ha, show x_c (nI m) = m from nI_clamp hm, show x_c (nI 3) = 3 from rfl]
                  try rw [show x_c (nI 3) = 3 from rfl]
                  rw [ho2]
                  try rw [nI_clamp hp]
                  try rw [nI_clamp ha]
                  try rw [nI_clamp hm]
                  refine x_QT_S (x_TC_set (F := f) (G := va_up g 9 (va_cpy (g 9) (g 9) p a m)) (i := 3) (c := some e) (u := va_cpy (T.2 3) (T.2 3) p a m) hT (fun _ _ => rfl) (fun k hk => x_un hk) ⟨b1, b2, b3, b4, fun k hk => ?_⟩) (fun _ _ => rfl) (fun k hk => x_un (by omega))
                  show va_up g 9 (va_cpy (g 9) (g 9) p a m) 9 k = va_cpy (T.2 3) (T.2 3) p a m k
                  rw [x_us]
                  unfold va_cpy
                  by_cases hc : a ≤ k ∧ k < a + m
                  · rw [if_pos hc, if_pos hc]
                    exact a5 _ (by omega)
                  · rw [if_neg hc, if_neg hc]
                    exact b5 k hk
                · have c6 : ¬ lg_cmp (a.toInt64 + m.toInt64) (f 8 1).toInt64 ≤ 0 := c6
                  rw [← Int32.not_lt, x_lg_gt, Int64.lt_iff_toInt_lt, x_ladd, x_l2, b1, nI_toInt (by omega)] at c6
                  rw [if_neg (by omega)] at ePP
                  rw [ePP, if_neg (by decide)]
                  refine Exists.intro _ (And.intro c_refused (And.intro (And.intro (Nat.zero_le _) (Nat.zero_le _)) (fun q h' hpo => ?_)))
                  obtain ⟨rfl, rfl⟩ := hpo
                  refine And.intro ?_ ⟨Or.inl rfl, Nat.le_refl _, Nat.le_refl _⟩
                  exact x_QT_0 hT
            · have c4 : ¬ f 8 2 = f 8 2 := c4
              have c4 : ¬ nI c.1 = nI e.1 := fun q => c4 (a2.trans (q.trans b2.symm))
              rw [nI_eq (by omega) (by omega)] at c4
              rw [if_neg c4] at ePP
              rw [ePP, if_neg (by decide)]
              refine Exists.intro _ (And.intro c_refused (And.intro (And.intro (Nat.zero_le _) (Nat.zero_le _)) (fun q h' hpo => ?_)))
              obtain ⟨rfl, rfl⟩ := hpo
              refine And.intro ?_ ⟨Or.inl rfl, Nat.le_refl _, Nat.le_refl _⟩
              exact x_QT_0 hT
      · have c3 : ¬ 0 ≤ m := c3
        rw [x_le, x_i0] at c3
        rw [bad (by unfold y_np; rw [decide_eq_false c3, Bool.and_false, Bool.and_false]), if_neg (by decide)]
        refine Exists.intro _ (And.intro c_refused (And.intro (And.intro (Nat.zero_le _) (Nat.zero_le _)) (fun q h' hpo => ?_)))
        obtain ⟨rfl, rfl⟩ := hpo
        refine And.intro ?_ ⟨Or.inl rfl, Nat.le_refl _, Nat.le_refl _⟩
        exact x_QT_0 hT
theorem c_pour {x p y a m : Int32} (hT : x_TC f g T) : x_Ct 103 (d + 2) [.ref 0, .int x, .int p, .int y, .int a, .int m] (f, g, x_HR r t, dm, n) (x_QT f g (x_HR r t) dm n (st_pour T x p y a m)) := by
  cases hx : x_wi x 0 3 with
  | false =>
    have hw : y_po T x p y a m = 1 := by
      unfold y_po
      rw [hx, Bool.false_and]
      exact if_neg (by decide)
    unfold st_pour
    rw [hw, if_neg (by decide)]
    refine x_Ct_w (by decide) (Nat.le_of_ble_eq_true rfl) ok103 [] 8 ?_
    refine Exists.intro _ (And.intro c_isTray (And.intro (And.intro (Nat.zero_le _) (Nat.zero_le _)) (fun q h' hpo => ?_)))
    obtain ⟨rfl, rfl⟩ := hpo
    rw [hx]
    refine And.intro (fun _ => ?_) (fun c => absurd rfl c)
    refine Exists.intro _ (And.intro c_refused (And.intro (And.intro (Nat.zero_le _) (Nat.zero_le _)) (fun q h' hpo => ?_)))
    obtain ⟨rfl, rfl⟩ := hpo
    refine And.intro ?_ ⟨Or.inl rfl, Nat.le_refl _, Nat.le_refl _⟩
    exact x_QT_0 hT
  | true =>
    cases hy : x_wi y 0 3 with
    | false =>
      have hw : y_po T x p y a m = 1 := by
        unfold y_po
        rw [hy, Bool.false_and, Bool.and_false]
        exact if_neg (by decide)
      unfold st_pour
      rw [hw, if_neg (by decide)]
      refine x_Ct_w (by decide) (Nat.le_of_ble_eq_true rfl) ok103 [] 8 ?_
      refine Exists.intro _ (And.intro c_isTray (And.intro (And.intro (Nat.zero_le _) (Nat.zero_le _)) (fun q h' hpo => ?_)))
      obtain ⟨rfl, rfl⟩ := hpo
      rw [hx]
      refine And.intro (fun c => absurd c (by decide)) (fun _ => ?_)
      refine Exists.intro _ (And.intro c_isTray (And.intro (And.intro (Nat.zero_le _) (Nat.zero_le _)) (fun q h' hpo => ?_)))
      obtain ⟨rfl, rfl⟩ := hpo
      rw [hy]
      refine And.intro (fun _ => ?_) (fun c => absurd rfl c)
      refine Exists.intro _ (And.intro c_refused (And.intro (And.intro (Nat.zero_le _) (Nat.zero_le _)) (fun q h' hpo => ?_)))
      obtain ⟨rfl, rfl⟩ := hpo
      refine And.intro ?_ ⟨Or.inl rfl, Nat.le_refl _, Nat.le_refl _⟩
      exact x_QT_0 hT
    | true =>
      rcases x_wi_3 hx with rfl | rfl | rfl | rfl <;> rcases x_wi_3 hy with rfl | rfl | rfl | rfl
      · exact c_pour_0_0 hT
      · exact c_pour_0_1 hT
      · exact c_pour_0_2 hT
      · exact c_pour_0_3 hT
      · exact c_pour_1_0 hT
      · exact c_pour_1_1 hT
      · exact c_pour_1_2 hT
      · exact c_pour_1_3 hT
      · exact c_pour_2_0 hT
      · exact c_pour_2_1 hT
      · exact c_pour_2_2 hT
      · exact c_pour_2_3 hT
      · exact c_pour_3_0 hT
      · exact c_pour_3_1 hT
      · exact c_pour_3_2 hT
      · exact c_pour_3_3 hT
end C53
