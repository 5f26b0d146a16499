/-! the other pairs of calls: STATUS, the FRACTION, the fault, TRAYS, feed -/
section Cc1
variable {f F : Nat → Nat → Int32} {g G : Nat → Nat → Int64} {r t r' t' L u B : Nat} {W W' : zW} {M M' : Nat → zW} {m m' : Nat} {T T' : xT} {D D' : Option (Nat → Nat)} {a a' : Nat → Int32} {k k' : Nat} {s s' : Int32} {e e' : Int32 × Int32} {p p' : Int64 × Int64} {ρ : Nat → Nat → Option Nat} {q : Option Value} {h h' : xH}
theorem z_EC_0 {w : Value} (hC : z_RC r t f g W M m T D a k s e p) (hr : r = 12 ∨ r = 22) (ht : t = 32 ∨ t = 39) : z_EC f g w W M m T D a k s e p (some w) (f, g, x_HR r t, x_dmA, 518) := ⟨rfl, r, t, f, g, hr, ht, rfl, hC, fun _ _ _ => ⟨rfl, rfl⟩⟩
theorem z_EM_0 {w : Value} (hC : z_RM f g W M m T D a k s e p) : z_EM f g ρ w W M m T D a k s e p (some w) (f, g, ρ, x_dmA, 518) := ⟨rfl, f, g, rfl, hC, fun _ _ => ⟨rfl, rfl⟩⟩
theorem z_k0 : ∀ u h, u ≤ 600 → z_Inv u h → x_TwoI (z_Inv (u + 1)) 97 176 [] h := fun u h hu hI => by
  obtain ⟨r, t, f, g, W, M, m, T, D, a, k, s, e, p, hr, ht, rfl, hC, hRM, hV⟩ := hI
  refine z_two_I (w := s) (T' := T) (D' := D) (s' := s) (e' := e) (p' := p) hRM c_status (fun q h' hp => ?_) (fun F G r' t' hR => ⟨_, m_status, fun q h' hp => ?_⟩) (z_RV_m hV)
  · obtain ⟨rfl, rfl⟩ := hp
    rw [hC.2.2.2.2.1.2.2.2.1]
    exact z_EC_0 hC hr ht
  · obtain ⟨rfl, rfl⟩ := hp
    rw [hR.2.2.2.2.2.2.2.1]
    exact z_EM_0 hR
theorem z_k1 : ∀ u h, u ≤ 600 → z_Inv u h → x_TwoL (z_Inv (u + 1)) 98 177 [] h := fun u h hu hI => by
  obtain ⟨r, t, f, g, W, M, m, T, D, a, k, s, e, p, hr, ht, rfl, hC, hRM, hV⟩ := hI
  refine z_two_L (w := p.1) (T' := T) (D' := D) (s' := s) (e' := e) (p' := p) hRM c_top (fun q h' hp => ?_) (fun F G r' t' hR => ⟨_, m_top, fun q h' hp => ?_⟩) (z_RV_m hV)
  · obtain ⟨rfl, rfl⟩ := hp
    rw [hC.2.2.2.2.1.2.2.2.2.2.2.1]
    exact z_EC_0 hC hr ht
  · obtain ⟨rfl, rfl⟩ := hp
    rw [hR.2.2.2.2.2.2.2.2.2.2.1]
    exact z_EM_0 hR
theorem z_k2 : ∀ u h, u ≤ 600 → z_Inv u h → x_TwoL (z_Inv (u + 1)) 99 178 [] h := fun u h hu hI => by
  obtain ⟨r, t, f, g, W, M, m, T, D, a, k, s, e, p, hr, ht, rfl, hC, hRM, hV⟩ := hI
  refine z_two_L (w := p.2) (T' := T) (D' := D) (s' := s) (e' := e) (p' := p) hRM c_bottom (fun q h' hp => ?_) (fun F G r' t' hR => ⟨_, m_bottom, fun q h' hp => ?_⟩) (z_RV_m hV)
  · obtain ⟨rfl, rfl⟩ := hp
    rw [hC.2.2.2.2.1.2.2.2.2.2.2.2]
    exact z_EC_0 hC hr ht
  · obtain ⟨rfl, rfl⟩ := hp
    rw [hR.2.2.2.2.2.2.2.2.2.2.2]
    exact z_EM_0 hR
theorem z_k10 : ∀ u h, u ≤ 600 → z_Inv u h → ∀ (a0 : Int32), x_TwoI (z_Inv (u + 1)) 107 208 [.int a0] h := fun u h hu hI a0 => by
  obtain ⟨r, t, f, g, W, M, m, T, D, a, k, s, e, p, hr, ht, rfl, hC, hRM, hV⟩ := hI
  refine z_two_I (w := if a0 = 0 then e.1 else if a0 = 1 then e.2 else -1) (T' := T) (D' := D) (s' := s) (e' := e) (p' := p) hRM c_fault (fun q h' hp => ?_) (fun F G r' t' hR => ⟨_, m_fault, fun q h' hp => ?_⟩) (z_RV_m hV)
  · obtain ⟨rfl, rfl⟩ := hp
    rw [hC.2.2.2.2.1.2.2.2.2.1, hC.2.2.2.2.1.2.2.2.2.2.1]
    exact z_EC_0 hC hr ht
  · obtain ⟨rfl, rfl⟩ := hp
    rw [hR.2.2.2.2.2.2.2.2.1, hR.2.2.2.2.2.2.2.2.2.1]
    exact z_EM_0 hR
theorem z_QT_E {S : xU} (hR : z_RC L t f g W M m T D a k s e p) (hm : m ≤ 3) (hL : L = 12 ∨ L = 22) (ht : t = 32 ∨ t = 39) (hp : x_QT f g (x_HR L t) x_dmA 518 S q h') : z_EC f g S.1 W M m S.2.2 D a k S.2.1 e p q h' := by
  obtain ⟨F, G, rfl, rfl, hT, h0, hj, hk, hg⟩ := hp
  obtain ⟨e14, e11, e5, e0, e6, e7, p1, p2⟩ := hR.2.2.2.2.1
  exact ⟨rfl, L, t, F, G, hL, ht, rfl, z_RC_k hR (z_Rc_fr hR.1 (fun c c1 c2 => hk c (by omega) (by omega)) (hg L (by omega)) (hg _ (by omega)) (fun c c1 c2 => hk c (by omega) (by omega))) (fun c c1 c2 => ⟨hk c (by omega) (by omega), hg c (by omega)⟩) hT (z_DC_fr hR.2.2.2.1 (hj 19 (by decide)) (hk 102 (by decide) (by decide)) (hg 102 (by decide))) (hj 14 (by decide)) ⟨(hk 11 (by decide) (by decide)).trans e11, (hj 5 (by decide)).trans e5, h0, (hj 6 (by decide)).trans e6, (hj 7 (by decide)).trans e7, by rw [hg 0 (by decide)]; exact p1, by rw [hg 0 (by decide)]; exact p2⟩ hm, fun c c1 c2 => ⟨hk c (by omega) (by omega), hg c (by omega)⟩⟩
theorem z_QN_E {S : xU} (hR : z_RM f g W M m T D a k s e p) (hV : ∀ i, i < m → z_Rv B (M i)) (hB : B < 2 ^ 60) (hm : m ≤ 3) (hp : x_QN f g ρ x_dmA 518 S q h') : z_EM f g ρ S.1 W M m S.2.2 D a k S.2.1 e p q h' := by
  obtain ⟨F, G, rfl, rfl, hT, h2, hj, hk, hg⟩ := hp
  obtain ⟨e38, e506, e10, e2, e16, e17, p1, p2⟩ := hR.2.2.2.2
  have e1 := hk 501 (by decide) (by decide) (by decide)
  have g2 := hg 502 (by decide)
  refine ⟨rfl, F, G, rfl, z_RM_k hR hV hB hm ?_ (fun j _ _ => by rw [e1]) (fun j _ _ => by rw [g2]) hT (z_DM_fr hR.2.2.2.1 (hj 37 (by decide)) (hk 517 (by decide) (by decide) (by decide))) (hj 38 (by decide)) ⟨(hk 506 (by decide) (by decide) (by decide)).trans e506, (hj 10 (by decide)).trans e10, h2, (hj 16 (by decide)).trans e16, (hj 17 (by decide)).trans e17, by rw [hg 500 (by decide)]; exact p1, by rw [hg 500 (by decide)]; exact p2⟩, fun c hc => ⟨hk c (by omega) (by omega) (by omega), hg c (by omega)⟩⟩
  rw [e1, g2]
  exact hR.1
theorem z_k3 : ∀ u h, u ≤ 600 → z_Inv u h → ∀ (a0 : Int32) (a1 : Int32) (a2 : Int32), x_TwoI (z_Inv (u + 1)) 100 186 [.int a0, .int a1, .int a2] h := fun u h hu hI a0 a1 a2 => by
  obtain ⟨r, t, f, g, W, M, m, T, D, a, k, s, e, p, hr, ht, rfl, hC, hRM, hV⟩ := hI
  obtain ⟨w, hw⟩ : ∃ w : Int32, (st_tray T a0 a1 a2).1 = .int w := by
    unfold st_tray
    split
    · exact ⟨_, rfl⟩
    · exact ⟨_, rfl⟩
  exact z_two_I (w := w) (T' := (st_tray T a0 a1 a2).2.2) (D' := D) (s' := (st_tray T a0 a1 a2).2.1) (e' := e) (p' := p) hRM (c_tray (d := 1297) hC.2.2.1) (fun q h' hp => by rw [← hw]; exact z_QT_E hC hV.2.2.1 hr ht hp) (fun F G r' t' hR => ⟨_, m_tray (d := 1298) hR.2.2.1, fun q h' hp => by rw [← hw]; exact z_QN_E hR hV.2.1 (z_B60 hu) hV.2.2.1 hp⟩) (z_RV_m hV)
theorem z_k4 : ∀ u h, u ≤ 600 → z_Inv u h → ∀ (a0 : Int32) (a1 : Int32) (a2 : Int64), x_TwoI (z_Inv (u + 1)) 101 188 [.int a0, .int a1, .long a2] h := fun u h hu hI a0 a1 a2 => by
  obtain ⟨r, t, f, g, W, M, m, T, D, a, k, s, e, p, hr, ht, rfl, hC, hRM, hV⟩ := hI
  obtain ⟨w, hw⟩ : ∃ w : Int32, (st_write T a0 a1 a2).1 = .int w := by
    unfold st_write
    split
    · exact ⟨_, rfl⟩
    · exact ⟨_, rfl⟩
  exact z_two_I (w := w) (T' := (st_write T a0 a1 a2).2.2) (D' := D) (s' := (st_write T a0 a1 a2).2.1) (e' := e) (p' := p) hRM (c_write (d := 1296) hC.2.2.1) (fun q h' hp => by rw [← hw]; exact z_QT_E hC hV.2.2.1 hr ht hp) (fun F G r' t' hR => ⟨_, m_write (d := 1297) hR.2.2.1, fun q h' hp => by rw [← hw]; exact z_QN_E hR hV.2.1 (z_B60 hu) hV.2.2.1 hp⟩) (z_RV_m hV)
theorem z_k5 : ∀ u h, u ≤ 600 → z_Inv u h → ∀ (a0 : Int32) (a1 : Int32), x_TwoL (z_Inv (u + 1)) 102 189 [.int a0, .int a1] h := fun u h hu hI a0 a1 => by
  obtain ⟨r, t, f, g, W, M, m, T, D, a, k, s, e, p, hr, ht, rfl, hC, hRM, hV⟩ := hI
  obtain ⟨w, hw⟩ : ∃ w : Int64, (st_read T a0 a1).1 = .long w := by
    unfold st_read
    split
    · exact ⟨_, rfl⟩
    · exact ⟨_, rfl⟩
  exact z_two_L (w := w) (T' := (st_read T a0 a1).2.2) (D' := D) (s' := (st_read T a0 a1).2.1) (e' := e) (p' := p) hRM (c_read (d := 1296) hC.2.2.1) (fun q h' hp => by rw [← hw]; exact z_QT_E hC hV.2.2.1 hr ht hp) (fun F G r' t' hR => ⟨_, m_read (d := 1297) hR.2.2.1, fun q h' hp => by rw [← hw]; exact z_QN_E hR hV.2.1 (z_B60 hu) hV.2.2.1 hp⟩) (z_RV_m hV)
theorem z_k6 : ∀ u h, u ≤ 600 → z_Inv u h → ∀ (a0 : Int32) (a1 : Int32) (a2 : Int32) (a3 : Int32) (a4 : Int32), x_TwoI (z_Inv (u + 1)) 103 190 [.int a0, .int a1, .int a2, .int a3, .int a4] h := fun u h hu hI a0 a1 a2 a3 a4 => by
  obtain ⟨r, t, f, g, W, M, m, T, D, a, k, s, e, p, hr, ht, rfl, hC, hRM, hV⟩ := hI
  obtain ⟨w, hw⟩ : ∃ w : Int32, (st_pour T a0 a1 a2 a3 a4).1 = .int w := by
    unfold st_pour
    split
    · exact ⟨_, rfl⟩
    · exact ⟨_, rfl⟩
  exact z_two_I (w := w) (T' := (st_pour T a0 a1 a2 a3 a4).2.2) (D' := D) (s' := (st_pour T a0 a1 a2 a3 a4).2.1) (e' := e) (p' := p) hRM (c_pour (d := 1297) hC.2.2.1) (fun q h' hp => by rw [← hw]; exact z_QT_E hC hV.2.2.1 hr ht hp) (fun F G r' t' hR => ⟨_, m_pour (d := 1298) hR.2.2.1, fun q h' hp => by rw [← hw]; exact z_QN_E hR hV.2.1 (z_B60 hu) hV.2.2.1 hp⟩) (z_RV_m hV)
theorem z_k52 : ∀ u h, u ≤ 600 → z_Inv u h → ∀ (a0 : Int32) (a1 : Int32), x_TwoI (z_Inv (u + 1)) 149 310 [.int a0, .int a1] h := fun u h hu hI a0 a1 => by
  obtain ⟨r, t, f, g, W, M, m, T, D, a, k, s, e, p, hr, ht, rfl, hC, hRM, hV⟩ := hI
  have hB := v_Bn_B hV.1.1 (z_B60 hu)
  obtain ⟨w, hw⟩ : ∃ w : Int32, (st_copy W.1 T a0 a1).1 = .int w := by
    unfold st_copy
    split
    · split
      · exact ⟨_, rfl⟩
      · exact ⟨_, rfl⟩
    · exact ⟨_, rfl⟩
  have hmod : ∀ F G r' t', z_RM F G W M m T D a k s e p → ∃ PB, x_Ct 310 1299 (.ref 500 :: [.int a0, .int a1]) (F, G, x_HR r' t', x_dmA, 518) PB ∧ ∀ q h', PB q h' → z_EM F G (x_HR r' t') (.int w) W M m (st_copy W.1 T a0 a1).2.2 D a k (st_copy W.1 T a0 a1).2.1 e p q h' := fun F G r' t' hR => ⟨_, m_copySheets (d := 1297) hR.1.1 hB hR.2.2.1, fun q h' hp => by rw [← hw]; exact z_QN_E hR hV.2.1 (z_B60 hu) hV.2.2.1 hp⟩
  rcases hr with rfl | rfl
  · exact z_two_I hRM (c_copySheets_12 (d := 1296) hC.1.1 hB hC.2.2.1) (fun q h' hp => by rw [← hw]; exact z_QT_E hC hV.2.2.1 (Or.inl rfl) ht hp) hmod (z_RV_m hV)
  · exact z_two_I hRM (c_copySheets_22 (d := 1296) hC.1.1 hB hC.2.2.1) (fun q h' hp => by rw [← hw]; exact z_QT_E hC hV.2.2.1 (Or.inr rfl) ht hp) hmod (z_RV_m hV)
theorem z_k53 : ∀ u h, u ≤ 600 → z_Inv u h → ∀ (a0 : Int32), x_TwoI (z_Inv (u + 1)) 150 311 [.int a0] h := fun u h hu hI a0 => by
  obtain ⟨r, t, f, g, W, M, m, T, D, a, k, s, e, p, hr, ht, rfl, hC, hRM, hV⟩ := hI
  have hB := v_Bn_B hV.1.1 (z_B60 hu)
  obtain ⟨w, hw⟩ : ∃ w : Int32, (st_cnt W.1 T a0).1 = .int w := by
    unfold st_cnt
    split
    · split
      · exact ⟨_, rfl⟩
      · exact ⟨_, rfl⟩
    · exact ⟨_, rfl⟩
  have hmod : ∀ F G r' t', z_RM F G W M m T D a k s e p → ∃ PB, x_Ct 311 1299 (.ref 500 :: [.int a0]) (F, G, x_HR r' t', x_dmA, 518) PB ∧ ∀ q h', PB q h' → z_EM F G (x_HR r' t') (.int w) W M m (st_cnt W.1 T a0).2.2 D a k (st_cnt W.1 T a0).2.1 e p q h' := fun F G r' t' hR => ⟨_, m_count (d := 1297) hR.1.1 hB hR.2.2.1, fun q h' hp => by rw [← hw]; exact z_QN_E hR hV.2.1 (z_B60 hu) hV.2.2.1 hp⟩
  rcases hr with rfl | rfl
  · exact z_two_I hRM (c_count_12 (d := 1296) hC.1.1 hB hC.2.2.1) (fun q h' hp => by rw [← hw]; exact z_QT_E hC hV.2.2.1 (Or.inl rfl) ht hp) hmod (z_RV_m hV)
  · exact z_two_I hRM (c_count_22 (d := 1296) hC.1.1 hB hC.2.2.1) (fun q h' hp => by rw [← hw]; exact z_QT_E hC hV.2.2.1 (Or.inr rfl) ht hp) hmod (z_RV_m hV)
theorem z_by (x : Int32) (i : Nat) : y_byt (y_by x i) := by
  unfold y_by
  split <;> exact y_nb_byt _
theorem z_p4 {x : Int32} {b : Nat} (h : ∀ j, j < b → y_byt (a j)) : ∀ j, j < b + 4 → y_byt (y_p4 a b x j) := fun j hj => by
  unfold y_p4
  split
  · exact z_by _ _
  · exact h j (by omega)
theorem z_p20 {x1 x2 x3 x4 x5 : Int32} (h : ∀ j, j < k → y_byt (a j)) : ∀ j, j < k + 20 → y_byt (y_p20 a k x1 x2 x3 x4 x5 j) := z_p4 (z_p4 (z_p4 (z_p4 (z_p4 h))))
theorem z_k7 : ∀ u h, u ≤ 600 → z_Inv u h → ∀ (a0 : Int32) (a1 : Int32) (a2 : Int32) (a3 : Int32) (a4 : Int32), x_TwoI (z_Inv (u + 1)) 104 192 [.int a0, .int a1, .int a2, .int a3, .int a4] h := fun u h hu hI a0 a1 a2 a3 a4 => by
  obtain ⟨r, t, f, g, W, M, m, T, D, a, k, s, e, p, hr, ht, rfl, hC, hRM, hV⟩ := hI
  obtain ⟨e14, e11, e5, e0, e6, e7, p1, p2⟩ := hC.2.2.2.2.1
  by_cases hk : 900 < k + 20
  · refine z_two_I (w := -1) (T' := T) (D' := D) (s' := s) (e' := e) (p' := p) hRM (c_feed (d := 1298) e5 hV.2.2.2.1) (fun q h' hp => ?_) (fun F G r' t' hR => ⟨_, m_feed (d := 1298) hR.2.2.2.2.2.2.1 hV.2.2.2.1, fun q h' hp => ?_⟩) (z_RV_m hV)
    · rw [if_pos hk] at hp
      obtain ⟨rfl, rfl⟩ := hp
      exact z_EC_0 hC hr ht
    · rw [if_pos hk] at hp
      obtain ⟨rfl, rfl⟩ := hp
      exact z_EM_0 hR
  · refine z_two_I (w := nI (k + 20)) (T' := T) (D' := D) (s' := s) (e' := e) (p' := p) (a' := y_p20 a k a0 a1 a2 a3 a4) (k' := k + 20) hRM (c_feed (d := 1298) e5 hV.2.2.2.1) (fun q h' hp => ?_) (fun F G r' t' hR => ⟨_, m_feed (d := 1298) hR.2.2.2.2.2.2.1 hV.2.2.2.1, fun q h' hp => ?_⟩) (W' := W) (M' := M) (m' := m) ⟨(z_RV_m hV).1, (z_RV_m hV).2.1, hV.2.2.1, by omega, z_p20 hV.2.2.2.2⟩
    · rw [if_neg hk] at hp
      obtain ⟨rfl, rfl⟩ := hp
      have hc : ∀ c, c ≠ 0 → c ≠ 11 → x_up (va_up f 11 (y_p20 (f 11) k a0 a1 a2 a3 a4)) 0 5 (nI (k + 20)) c = f c := fun c c1 c2 => by rw [x_up_k c1, x_un c2]
      have h0 : ∀ j, j ≠ 5 → x_up (va_up f 11 (y_p20 (f 11) k a0 a1 a2 a3 a4)) 0 5 (nI (k + 20)) 0 j = f 0 j := fun j hj => by rw [x_up_j hj, x_un (by decide)]
      refine ⟨rfl, r, t, _, _, hr, ht, rfl, z_RC_k hC (z_Rc_fr hC.1 (fun c c1 c2 => hc c (by omega) (by omega)) rfl rfl (fun c c1 c2 => hc c (by omega) (by omega))) (fun c c1 c2 => ⟨hc c (by omega) (by omega), rfl⟩) (z_TC_fr hC.2.2.1 (fun c c1 c2 => hc c (by omega) (by omega)) (fun c c1 c2 => rfl)) (z_DC_fr hC.2.2.2.1 (h0 19 (by decide)) (hc 102 (by decide) (by decide)) rfl) (h0 14 (by decide)) ⟨?_, x_up_s _ _ _ _, (h0 0 (by decide)).trans e0, (h0 6 (by decide)).trans e6, (h0 7 (by decide)).trans e7, p1, p2⟩ hV.2.2.1, fun c c1 c2 => ⟨hc c (by omega) (by omega), rfl⟩⟩
      rw [x_up_k (by decide), x_us, e11]
    · rw [if_neg hk] at hp
      obtain ⟨rfl, rfl⟩ := hp
      obtain ⟨e38, e506, e10, e2, e16, e17, q1, q2⟩ := hR.2.2.2.2
      have hc : ∀ c, c ≠ 500 → c ≠ 506 → x_up (va_up F 506 (y_p20 (F 506) k a0 a1 a2 a3 a4)) 500 10 (nI (k + 20)) c = F c := fun c c1 c2 => by rw [x_up_k c1, x_un c2]
      have h0 : ∀ j, j ≠ 10 → x_up (va_up F 506 (y_p20 (F 506) k a0 a1 a2 a3 a4)) 500 10 (nI (k + 20)) 500 j = F 500 j := fun j hj => by rw [x_up_j hj, x_un (by decide)]
      have e1 := hc 501 (by decide) (by decide)
      refine ⟨rfl, _, _, rfl, z_RM_k hR hV.2.1 (z_B60 hu) hV.2.2.1 (by rw [e1]; exact hR.1) (fun j _ _ => by rw [e1]) (fun j _ _ => rfl) (z_TM_fr hR.2.2.1 (hc 503 (by decide) (by decide)) (hc 504 (by decide) (by decide)) rfl) (z_DM_fr hR.2.2.2.1 (h0 37 (by decide)) (hc 517 (by decide) (by decide))) (h0 38 (by decide)) ⟨?_, x_up_s _ _ _ _, (h0 2 (by decide)).trans e2, (h0 16 (by decide)).trans e16, (h0 17 (by decide)).trans e17, q1, q2⟩, fun c c1 => ⟨hc c (by omega) (by omega), rfl⟩⟩
      rw [x_up_k (by decide), x_us, e506]
end Cc1
