/-! the words, as the model finds them -/
theorem y_mk_2 {x : Int32} : y_mk x = 2 ↔ x = 1 := by
  unfold y_mk
  repeat' split
  all_goals (constructor <;> intro h)
  all_goals simp_all (config := { decide := true })
theorem y_mk_3 {x : Int32} : y_mk x = 3 ↔ x = 2 := by
  unfold y_mk
  repeat' split
  all_goals (constructor <;> intro h)
  all_goals simp_all (config := { decide := true })
theorem y_mk_1 {x : Int32} : y_mk x = 1 ↔ x = 4 := by
  unfold y_mk
  repeat' split
  all_goals (constructor <;> intro h)
  all_goals simp_all (config := { decide := true })
theorem y_mk_0 {x : Int32} : y_mk x = 0 ↔ x = 3 := by
  unfold y_mk
  repeat' split
  all_goals (constructor <;> intro h)
  all_goals simp_all (config := { decide := true })
theorem y_tk_1 {a : Nat → Int32} {m q : Nat} : y_tk a m q = 1 ↔ y_sa a m q = 1 := by
  constructor
  · intro h
    exact y_tk_sa h (by decide)
  · intro h
    unfold y_tk
    rw [if_neg (fun e => by rw [h] at e; exact absurd e.1 (by decide))]
    exact h
def y_kps (w : Nat) : Nat := if w = 25 then 129 else y_ks.getD w 0
theorem y_kps_s {w : Nat} (h : w < 25) : y_kps w = y_ks.getD w 0 ∧ y_kps (w + 1) = y_ks.getD w 0 + y_kl.getD w 0 + 1 := by
  have e : ∀ w, w < 25 → y_kps w = y_ks.getD w 0 ∧ y_kps (w + 1) = y_ks.getD w 0 + y_kl.getD w 0 + 1 := by decide +kernel
  exact e w h
def x_RMt (a : Nat → Int32) (m q : Nat) (F : Nat → Nat → Int32) : Prop := F 507 = a ∧ y_KM a m q (F 500) ∧ F 500 18 = 0 ∧ F 500 17 = -1
section C86
variable {f : Nat → Nat → Int32} {g : Nat → Nat → Int64} {r t : Nat} {dm : List Nat} {n d N : Nat} {v : xV} {a : Nat → Int32} {m q : Nat}
theorem m_inWords (hT : y_TP a m) (hR : x_RMt a m q f) : x_V 199 (d + 5) [.ref 500, .ref 1003] (f, g, x_HR r t, dm, n) (.int (y_wm a m q)) (f, g, x_HR r t, dm, n) := by
  obtain ⟨h7, hK, -⟩ := hR
  obtain ⟨R, hRR⟩ : ∃ R, R = y_wm a m q := ⟨_, rfl⟩
  rw [← hRR]
  have hb := hT.2
  have hm := hT.1
  by_cases hs : y_sa a m q = 1
  · have hR2 : y_fw (y_val a q (y_end a m q - q)) 25 0 = R := by
      rw [hRR]
      unfold y_wm
      rw [if_pos hs]
    have hlt := y_end_le (a := a) (m := m) (q := q) (by rw [hs]; decide)
    have k13 : f 500 13 = nI q := hK.2.1
    have k14 : f 500 14 = nI (y_end a m q) := hK.2.2.2.1 (by rw [hs]; decide)
    have k12 : f 500 12 = 2 := by rw [hK.2.2.1, y_mk_2, y_tk_1]; exact hs
    obtain ⟨N, hN⟩ : ∃ N, N = y_end a m q - q := ⟨_, rfl⟩
    obtain ⟨V, hV⟩ : ∃ V, V = y_val a q N := ⟨_, rfl⟩
    rw [← hN, ← hV] at hR2
    have lts : ∀ k, k < N → 97 ≤ (a (q + k)).toNatClampNeg ∧ (a (q + k)).toNatClampNeg ≤ 122 ∧ a (q + k) = nI (a (q + k)).toNatClampNeg ∧ a (q + k) &&& 255 = a (q + k) := by
      rw [hN]
      exact y_lts hb hs
    obtain ⟨Po, hPo⟩ : ∃ Po : Option Value → xH → Prop, Po = (fun q h' => q = some (.int R) ∧ h' = (f, g, x_HR r t, dm, n)) := ⟨_, rfl⟩
    show x_Ct 199 (d + 5) _ _ (fun q h' => q = some (.int R) ∧ h' = (f, g, x_HR r t, dm, n))
    rw [← hPo]
    have loop : ∀ j w x4 x5 x6, w + j = 25 → y_fw V j w = R → x_J 199 (d + 5) Po 14 [some (.ref 500), some (.ref 1003), some (.int (nI w)), some (.int (nI (y_kps w))), x4, x5, x6] [] (f, g, x_HR r t, dm, n) 0 0 := by
      intro j
      induction j with
      | zero =>
        intro w x4 x5 x6 hw hr
        obtain rfl : w = 25 := by omega
        refine x_wp_ok ok199 [14, 25, 68, 115, 122] 6 ?_
        refine And.intro (fun _ => ?_) (fun c => absurd (by decide) c)
        refine And.intro ?_ ⟨trivial, Nat.le_refl _, Nat.le_refl _⟩
        rw [hPo]
        exact ⟨congrArg (fun z => some (Value.int z)) hr, rfl⟩
      | succ j ih =>
        intro w x4 x5 x6 hw hr
        have hw25 : w < 25 := by omega
        obtain ⟨kp1, kp2⟩ := y_kps_s hw25
        obtain ⟨-, kf1, kf2, kf3, kf4⟩ := y_kf w hw25
        obtain ⟨s, hsw⟩ : ∃ s, s = y_ks.getD w 0 := ⟨_, rfl⟩
        obtain ⟨l, hlw⟩ : ∃ l, l = y_kl.getD w 0 := ⟨_, rfl⟩
        have kf5 := y_kf2 w hw25
        have hkv : y_kv w = y_val y_kb s l := by rw [hsw, hlw]; rfl
        rw [← hsw, ← hlw] at kp2 kf1 kf2 kf5
        rw [← hsw] at kp1
        rw [← hlw] at kf3 kf4
        have next : V ≠ y_kv w → ∀ x5 x6, x_J 199 (d + 5) Po 122 [some (.ref 500), some (.ref 1003), some (.int (nI w)), some (.int (nI s)), some (.int (nI (s + l))), x5, x6] [] (f, g, x_HR r t, dm, n) 0 0 := by
          intro hne x5 x6
          have e0 := ih (w + 1) (some (.int (nI (s + l)))) x5 x6 (by omega) ((if_neg hne).symm.trans hr)
          rw [kp2, ← nI_1o, ← nI_1o (s + l)] at e0
          refine x_wp_ok ok199 [14] 6 ?_
          exact e0
        have found : V = y_kv w → ∀ x6, x_J 199 (d + 5) Po 115 [some (.ref 500), some (.ref 1003), some (.int (nI w)), some (.int (nI s)), some (.int (nI (s + l))), some (.int 1), x6] [] (f, g, x_HR r t, dm, n) 0 0 := by
          intro he x6
          have hr2 : nI w = R := (if_pos he).symm.trans hr
          refine x_wp_ok ok199 [14, 122] 6 ?_
          refine And.intro (fun c => absurd (show (1 : Int32) = 0 from c) (by decide)) (fun _ => ?_)
          refine And.intro ?_ ⟨trivial, Nat.le_refl _, Nat.le_refl _⟩
          rw [hPo]
          exact ⟨congrArg (fun z => some (Value.int z)) hr2, rfl⟩
        have lose : V ≠ y_kv w → ∀ x6, x_J 199 (d + 5) Po 115 [some (.ref 500), some (.ref 1003), some (.int (nI w)), some (.int (nI s)), some (.int (nI (s + l))), some (.int 0), x6] [] (f, g, x_HR r t, dm, n) 0 0 := by
          intro he x6
          refine x_wp_ok ok199 [14, 122] 6 ?_
          refine And.intro (fun _ => ?_) (fun c => absurd rfl c)
          exact next he _ _
        have cmp : N = l → ∀ j i, i + j = l → (∀ k, k < i → a (q + k) = y_kb (s + k)) → x_J 199 (d + 5) Po 68 [some (.ref 500), some (.ref 1003), some (.int (nI w)), some (.int (nI s)), some (.int (nI (s + l))), some (.int 1), some (.int (nI (s + i)))] [] (f, g, x_HR r t, dm, n) 0 0 := by
          intro hNl j
          induction j with
          | zero =>
            intro i hi he
            obtain rfl : i = l := by omega
            refine x_wp_ok ok199 [68, 115] 6 ?_
            refine And.intro (fun _ => ?_) (fun c => absurd (show nI (s + i) ≤ nI (s + i) from nI_le (Nat.le_refl _) (by omega)) c)
            refine found ?_ _
            rw [hV, hkv, hNl]
            exact y_val_cg _ he
          | succ j ihj =>
            intro i hi he
            refine x_wp_ok ok199 [68, 115] 6 ?_
            refine And.intro (fun c => absurd (show nI (s + l) ≤ nI (s + i) from c) (nI_ge (by omega) (by omega))) (fun _ => ?_)
            refine And.intro (fun c => absurd (show (1 : Int32) = 0 from c) (by decide)) (fun _ => ?_)
            refine And.intro (x_ix_nI (by omega) (by omega)) ?_
            have ei : f 500 13 + nI (s + i) - nI s = nI (q + i) := by rw [k13, nI_add, pk_sub (by omega), show q + (s + i) - s = q + i by omega]
            show ∃ P, x_Ct 194 (d + 4) [.ref 500, .int (f 500 13 + nI (s + i) - nI s)] _ P ∧ _
            rw [ei]
            refine Exists.intro _ (And.intro (m_byteAt (k := q + i) (m := m) hK.1 hm (by omega)) (And.intro (And.intro (Nat.zero_le _) (Nat.zero_le _)) (fun q h' hpo => ?_)))
            obtain ⟨rfl, rfl⟩ := hpo
            have eb : y_ba (f 507) m (q + i) = a (q + i) := by
              rw [h7]
              unfold y_ba
              rw [if_pos (by omega)]
              exact (lts i (by omega)).2.2.2
            rw [eb, nI_clamp (show s + i < 2 ^ 31 by omega)]
            refine And.intro (fun c => ?_) (fun c => ?_)
            · have c : ¬ y_kb (s + i) = a (q + i) := c
              have hne : V ≠ y_kv w := by
                intro e
                rw [hV, hkv] at e
                have e2 := (y_val_inj N l (fun k hk => by have := lts k hk; omega) (fun k hk => by have := kf5 k (by omega) hk; omega) e).2 i (by omega)
                refine c ?_
                rw [(kf5 i (by omega) (by omega)).2.2.2, (lts i (by omega)).2.2.1, e2]
              refine x_wp_ok ok199 [115] 6 ?_
              refine And.intro (fun _ => lose hne _) (fun _ => ?_)
              exact And.intro (fun _ => lose hne _) (fun c => absurd rfl c)
            · have c : y_kb (s + i) = a (q + i) := c
              have e0 := ihj (i + 1) (by omega) (fun k hk => by
                by_cases e : k = i
                · rw [e]
                  exact c.symm
                · exact he k (by omega))
              rw [← Nat.add_assoc, ← nI_1o] at e0
              exact e0
        have scan : ∀ j i x5 x6, i + j = l → x_J 199 (d + 5) Po 25 [some (.ref 500), some (.ref 1003), some (.int (nI w)), some (.int (nI s)), some (.int (nI (s + i))), x5, x6] [] (f, g, x_HR r t, dm, n) 0 0 := by
          intro j
          induction j with
          | zero =>
            intro i x5 x6 hi
            obtain rfl : i = l := by omega
            refine x_wp_ok ok199 [25, 68] 6 ?_
            refine And.intro (x_ix_nI (by omega) (by omega)) ?_
            rw [nI_clamp (show s + i < 2 ^ 31 by omega)]
            refine And.intro (fun _ => ?_) (fun c => absurd (show y_kb (s + i) = 32 from kf2) c)
            have e1 : nI (s + i) - nI s = nI i := by rw [pk_sub (by omega), Nat.add_sub_cancel_left]
            have e2 : f 500 14 - f 500 13 = nI N := by rw [k14, k13, pk_sub (by omega), ← hN]
            refine And.intro (fun c => ?_) (fun c => ?_)
            · have c : ¬ nI (s + i) - nI s = f 500 14 - f 500 13 := c
              rw [e1, e2, nI_eq (by omega) (by omega)] at c
              have hne : V ≠ y_kv w := by
                intro e
                rw [hV, hkv] at e
                exact c (y_val_inj N i (fun k hk => by have := lts k hk; omega) (fun k hk => by have := kf5 k (by omega) hk; omega) e).1.symm
              refine x_wp_ok ok199 [115] 6 ?_
              refine And.intro (fun _ => lose hne _) (fun _ => ?_)
              exact And.intro (fun _ => lose hne _) (fun c => absurd rfl c)
            · have c : nI (s + i) - nI s = f 500 14 - f 500 13 := c
              rw [e1, e2, nI_eq (by omega) (by omega)] at c
              exact cmp c.symm i 0 (by omega) (fun k hk => absurd hk (Nat.not_lt_zero _))
          | succ j ihj =>
            intro i x5 x6 hi
            refine x_wp_ok ok199 [25, 68] 6 ?_
            refine And.intro (x_ix_nI (by omega) (by omega)) ?_
            rw [nI_clamp (show s + i < 2 ^ 31 by omega)]
            refine And.intro (fun c => absurd (show y_kb (s + i) = 32 from c) (kf5 i (by omega) (by omega)).1) (fun _ => ?_)
            have e0 := ihj (i + 1) x5 x6 (by omega)
            rw [← Nat.add_assoc, ← nI_1o] at e0
            exact e0
        rw [kp1]
        refine x_wp_ok ok199 [14, 25] 6 ?_
        refine And.intro (fun c => absurd (show nI 129 ≤ nI s from c) (nI_ge (by omega) (by decide))) (fun _ => ?_)
        exact scan l 0 x5 x6 (by omega)
    refine x_Ct_w (by decide) (Nat.le_of_ble_eq_true rfl) ok199 [14] 6 ?_
    refine And.intro (fun _ => ?_) (fun c => absurd (show f 500 12 = 2 from k12) c)
    exact loop 25 0 none none none rfl hR2
  · have e : R = -1 := by
      rw [hRR]
      unfold y_wm
      rw [if_neg hs]
    rw [e]
    refine x_Ct_w (by decide) (Nat.le_of_ble_eq_true rfl) ok199 [14] 6 ?_
    refine And.intro (fun c => absurd (show f 500 12 = 2 from c) (fun h => hs ?_)) (fun _ => ?_)
    · rw [hK.2.2.1, y_mk_2, y_tk_1] at h
      exact h
    · exact And.intro ⟨rfl, rfl⟩ ⟨trivial, Nat.le_refl _, Nat.le_refl _⟩
end C86
