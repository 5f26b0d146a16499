/-! land() and reigns() on both sides: the pairs -/
section Cc5
variable {f F : Nat → Nat → Int32} {g G : Nat → Nat → Int64} {r t r' t' L u B : Nat} {W W' : zW} {M M' : Nat → zW} {m m' : Nat} {T T' : xT} {D D' : Option (Nat → Nat)} {a a' : Nat → Int32} {k k' : Nat} {s s' : Int32} {e e' : Int32 × Int32} {p p' : Int64 × Int64} {ρ : Nat → Nat → Option Nat} {q : Option Value} {h h' : xH}
theorem z_two_J {A Bn : Nat} {as : List Value} {w : Int32} {PA : Option Value → xH → Prop} (hRM : z_RM f g W M m T D a k s e p) (hA : x_Ct A 1299 (.ref 0 :: as) (f, g, x_HR r t, x_dmA, 518) PA) (hA2 : ∀ q h', PA q h' → z_EC f g (.int w) W' M' m' T' D' a' k' s' e' p' q h' ∧ z_RV ((u + 1) * 2 ^ 34) W' M' m' a' k') (hB : ∀ F G r' t', z_RM F G W M m T D a k s e p → ∃ PB, x_Ct Bn 1299 (.ref 500 :: as) (F, G, x_HR r' t', x_dmA, 518) PB ∧ ∀ q h', PB q h' → z_EM F G (x_HR r' t') (.int w) W' M' m' T' D' a' k' s' e' p' q h') : x_TwoI (z_Inv (u + 1)) A Bn as (f, g, x_HR r t, x_dmA, 518) := by
  refine ⟨PA, hA, fun q h1 hp => ?_⟩
  obtain ⟨⟨rfl, r2, t2, F, G, hr2, ht2, rfl, hC2, hfr⟩, hV⟩ := hA2 q h1 hp
  obtain ⟨PB, hB1, hB2⟩ := hB F G r2 t2 (z_RM_cg hRM hfr)
  refine ⟨w, rfl, PB, hB1, fun q' h2 hp' => ?_⟩
  obtain ⟨rfl, F2, G2, rfl, hM2, hfr2⟩ := hB2 q' h2 hp'
  exact ⟨rfl, r2, t2, F2, G2, W', M', m', T', D', a', k', s', e', p', hr2, ht2, rfl, z_RC_cg hC2 hr2 ht2 hV.2.2.1 hfr2, hM2, hV⟩
theorem z_k8 : ∀ u h, u ≤ 600 → z_Inv u h → ∀ (a0 : Int32), x_TwoI (z_Inv (u + 1)) 105 218 [.int a0] h := fun u h hu hI a0 => by
  obtain ⟨r, t, f, g, W, M, m, T, D, a, k, s, e, p, hr, ht, rfl, hC, hRM, hV⟩ := hI
  obtain ⟨e14, e11, e5, e0, e6, e7, p1, p2⟩ := hC.2.2.2.2.1
  have hm := hV.2.2.1
  have hk9 := hV.2.2.2.1
  have hb : ∀ j, j < k → y_byt (f 11 j) := by rw [e11]; exact hV.2.2.2.2
  have hV1 := z_RV_m hV
  obtain ⟨L, hL, hA⟩ : ∃ L, ((r = 12 ∧ L = 22) ∨ (r = 22 ∧ L = 12)) ∧ x_Ct 105 1299 (.ref 0 :: [.int a0]) (f, g, x_HR r t, x_dmA, 518) (x_QCl r t L f g x_dmA 518 k a0) := by
    rcases hr with rfl | rfl
    · rcases ht with rfl | rfl
      · exact ⟨22, Or.inl ⟨rfl, rfl⟩, c_land_12_32 (d := 1293) e5 hk9 hb z_600 z_601 z_610 (fun r hr => z_hr hr (Or.inl rfl))⟩
      · exact ⟨22, Or.inl ⟨rfl, rfl⟩, c_land_12_39 (d := 1293) e5 hk9 hb z_600 z_601 z_610 (fun r hr => z_hr hr (Or.inr rfl))⟩
    · rcases ht with rfl | rfl
      · exact ⟨12, Or.inr ⟨rfl, rfl⟩, c_land_22_32 (d := 1293) e5 hk9 hb z_600 z_601 z_610 (fun r hr => z_hr hr (Or.inl rfl))⟩
      · exact ⟨12, Or.inr ⟨rfl, rfl⟩, c_land_22_39 (d := 1293) e5 hk9 hb z_600 z_601 z_610 (fun r hr => z_hr hr (Or.inr rfl))⟩
  have hmod : ∀ F G r' t', z_RM F G W M m T D a k s e p → x_Ct 218 1299 (.ref 500 :: [.int a0]) (F, G, x_HR r' t', x_dmA, 518) (x_QMl r' t' F G x_dmA 518 k a0) := fun F G r' t' hR => m_land (d := 1289) hR.2.2.2.2.2.2.1 hk9 (by rw [hR.2.2.2.2.2.1]; exact hV.2.2.2.2)
  cases hx : x_wi a0 0 (nI k) with
  | false =>
    refine z_two_I (w := -1) (T' := T) (D' := D) (s' := 1) (e' := e) (p' := p) hRM hA (fun q h' hp => ?_) (fun F G r' t' hR => ⟨_, hmod F G r' t' hR, fun q h' hp => ?_⟩) hV1
    · unfold x_QCl at hp
      rw [hx] at hp
      obtain ⟨rfl, rfl⟩ := hp
      exact ⟨rfl, r, t, _, _, hr, ht, rfl, z_RC_0 hC hr ht hm (fun c hc => x_up_k hc) (fun _ _ => rfl) (fun j hj => x_up_j hj) (x_up_s _ _ _ _) p1 p2, fun c c1 c2 => ⟨x_up_k (by omega), rfl⟩⟩
    · unfold x_QMl at hp
      rw [hx] at hp
      obtain ⟨rfl, rfl⟩ := hp
      exact ⟨rfl, _, _, rfl, z_RM_0 hR (fun c hc => x_up_k hc) (fun _ _ => rfl) (fun j hj => x_up_j hj) (x_up_s _ _ _ _) hR.2.2.2.2.2.2.2.2.2.2.1 hR.2.2.2.2.2.2.2.2.2.2.2, fun c c1 => ⟨x_up_k (by omega), rfl⟩⟩
  | true =>
    cases hl : y_land a (x_c a0) with
    | inl e1 => exact z_two_I hRM hA (fun q h' hp => z_land_C1 hC hm hL ht hx hl hp) (fun F G r' t' hR => ⟨_, hmod F G r' t' hR, fun q h' hp => z_land_M1 hR hV (z_B60 hu) hx hl hp⟩) ⟨hV1.1, hV1.2.1, hm, Nat.zero_le _, fun j hj => absurd hj (Nat.not_lt_zero _)⟩
    | inr S => exact z_two_J hRM hA (fun q h' hp => by
        obtain ⟨h1, h2⟩ := z_land_C2 hC hm hL ht hx hl hp
        exact ⟨h1, ⟨z_landBn hl h2 _, trivial⟩, hV1.2.1, hm, Nat.zero_le _, fun j hj => absurd hj (Nat.not_lt_zero _)⟩) (fun F G r' t' hR => ⟨_, hmod F G r' t' hR, fun q h' hp => z_land_M2 hR hV (z_B60 hu) hx hl hp⟩)
theorem z_rg_C1 {x : Int32} {e1 : Nat × Nat} {L : Nat} (hR : z_RC r t f g W M m T D a k s e p) (hm : m ≤ 3) (hr : r = 12 ∨ r = 22) (hL : (t = 32 ∧ L = 39) ∨ (t = 39 ∧ L = 32)) (hx : x_wi x 0 (nI (min k 300)) = true) (hl : y_reigns a W.2.1 (W.1 2 0 0) (W.1 0 0 0) (W.1 1 0 0) (x_c x) = .inl e1) (hp : x_QCr r t L W.1 W.2.1 f g x_dmA 518 k x q h') : z_EC f g (.int (-1)) W M m T D a 0 9 (nI e1.1, nI e1.2) p q h' := by
  obtain ⟨e14, e11, e5, e0, e6, e7, p1, p2⟩ := hR.2.2.2.2.1
  unfold x_QCr at hp
  rw [hx, e11, hl] at hp
  obtain ⟨rfl, F, G, rfl, ⟨j1, j2, j3⟩, s0, s5, s6, s7⟩ := hp
  exact ⟨rfl, r, t, F, G, hr, by omega, rfl, z_RC_k hR (z_Rc_fr hR.1 (fun c c1 c2 => j2 c (by omega) (by omega) (by omega) (by omega)) (j3 _ (by omega) (by omega)) (j3 _ (by omega) (by omega)) (fun c c1 c2 => j2 c (by omega) (by omega) (by omega) (by omega))) (fun c c1 c2 => ⟨j2 c (by omega) (by omega) (by omega) (by omega), j3 c (by omega) (by omega)⟩) (z_TC_fr hR.2.2.1 (fun c c1 c2 => j2 c (by omega) (by omega) (by omega) (by omega)) (fun c c1 c2 => j3 c (by omega) (by omega))) (z_DC_fr hR.2.2.2.1 (j1 19 (by decide) (by decide) (by decide) (by decide)) (j2 102 (by decide) (by decide) (by decide) (by omega)) (j3 102 (by decide) (by decide))) (j1 14 (by decide) (by decide) (by decide) (by decide)) ⟨(j2 11 (by decide) (by decide) (by decide) (by omega)).trans e11, s5, s0, s6, s7, by rw [j3 0 (by decide) (by decide)]; exact p1, by rw [j3 0 (by decide) (by decide)]; exact p2⟩ hm, fun c c1 c2 => ⟨j2 c (by omega) (by omega) (by omega) (by omega), j3 c (by omega) (by omega)⟩⟩
theorem z_rg_C2 {x : Int32} {S : xTr} {L : Nat} (hR : z_RC r t f g W M m T D a k s e p) (hm : m ≤ 3) (hr : r = 12 ∨ r = 22) (hL : (t = 32 ∧ L = 39) ∨ (t = 39 ∧ L = 32)) (hx : x_wi x 0 (nI (min k 300)) = true) (hl : y_reigns a W.2.1 (W.1 2 0 0) (W.1 0 0 0) (W.1 1 0 0) (x_c x) = .inr S) (hp : x_QCr r t L W.1 W.2.1 f g x_dmA 518 k x q h') : z_EC f g (.int (nI S.2.2.1)) (W.1, W.2.1, some (S.1, S.2.1)) M m T D a 0 0 (0, -1) p q h' := by
  obtain ⟨e14, e11, e5, e0, e6, e7, p1, p2⟩ := hR.2.2.2.2.1
  unfold x_QCr at hp
  rw [hx, e11, hl] at hp
  obtain ⟨rfl, F, G, rfl, ⟨j1, j2, j3⟩, ⟨s0, s5, s6, s7⟩, h1, h2⟩ := hp
  have hW : z_Rc F G r L (W.1, W.2.1, some (S.1, S.2.1)) := ⟨v_C_fr hR.1.1 (fun c c1 c2 => j2 c (by omega) (by omega) (by omega) (by omega)) (j3 _ (by omega) (by omega)), by
    show y_NR (G (r + 2)) W.1 W.2.1
    rw [j3 (r + 2) (by omega) (by omega)]
    exact hR.1.2.1, h1, h2⟩
  exact ⟨rfl, r, L, F, G, hr, by omega, rfl, z_RC_k hR hW (fun c c1 c2 => ⟨j2 c (by omega) (by omega) (by omega) (by omega), j3 c (by omega) (by omega)⟩) (z_TC_fr hR.2.2.1 (fun c c1 c2 => j2 c (by omega) (by omega) (by omega) (by omega)) (fun c c1 c2 => j3 c (by omega) (by omega))) (z_DC_fr hR.2.2.2.1 (j1 19 (by decide) (by decide) (by decide) (by decide)) (j2 102 (by decide) (by decide) (by decide) (by omega)) (j3 102 (by decide) (by decide))) (j1 14 (by decide) (by decide) (by decide) (by decide)) ⟨(j2 11 (by decide) (by decide) (by decide) (by omega)).trans e11, s5, s0, s6, s7, by rw [j3 0 (by decide) (by decide)]; exact p1, by rw [j3 0 (by decide) (by decide)]; exact p2⟩ hm, fun c c1 c2 => ⟨j2 c (by omega) (by omega) (by omega) (by omega), j3 c (by omega) (by omega)⟩⟩
theorem z_rg_M1 {x : Int32} {e1 : Nat × Nat} (hR : z_RM f g W M m T D a k s e p) (hV : z_RV B W M m a k) (hB : B < 2 ^ 60) (hx : x_wi x 0 (nI (min k 300)) = true) (hl : y_reigns a W.2.1 (W.1 2 0 0) (W.1 0 0 0) (W.1 1 0 0) (x_c x) = .inl e1) (hp : x_QMr r t W.1 W.2.1 f g x_dmA 518 k x q h') : z_EM f g (x_HR r t) (.int (-1)) W M m T D a 0 9 (nI e1.1, nI e1.2) p q h' := by
  obtain ⟨e38, e506, e10, e2, e16, e17, p1, p2⟩ := hR.2.2.2.2
  unfold x_QMr at hp
  rw [hx, e506, hl] at hp
  obtain ⟨rfl, F, rfl, ⟨j1, j2, j3⟩, ⟨s2, s10, s16, s17⟩, h5⟩ := hp
  exact ⟨rfl, F, g, rfl, z_RM_k hR hV.2.1 hB hV.2.2.1 (z_Rm_fr hR.1 hV.1 hB (fun j hj => h5 j (by omega)) (fun j hj => rfl)) (fun j h1 h2 => j3 j (by omega)) (fun _ _ _ => rfl) (z_TM_fr hR.2.2.1 (j1 503 (by decide) (by decide) (by decide) (by decide)) (j1 504 (by decide) (by decide) (by decide) (by decide)) rfl) (z_DM_fr hR.2.2.2.1 (j2 37 (by decide)) (j1 517 (by decide) (by decide) (by decide) (by decide))) (j2 38 (by decide)) ⟨(j1 506 (by decide) (by decide) (by decide) (by decide)).trans e506, s10, s2, s16, s17, p1, p2⟩, fun c hc => ⟨j1 c (by omega) (by omega) (by omega) (by omega), rfl⟩⟩
theorem z_M_11 {A A' : Nat → Int32} {v : xV} (h : v_M A 0 v) (hB : v_B v) (h1 : ∀ j, j < 96 → j ≠ 11 → A' j = A j) : v_M A' 0 v := by
  have bK := v_B_K hB
  have bG := v_B_G hB
  have bP := v_B_P hB
  refine ⟨fun c i j hv => ?_, ?_, ?_⟩
  · have hl := v_pm_lt bK bG bP hv
    rw [Nat.zero_add, h1 _ hl.1 hl.2.2.2]
    have := h.1 c i j hv
    rw [Nat.zero_add] at this
    exact this
  · rw [h1 (0 + 9) (by decide) (by decide)]; exact h.2.1
  · rw [h1 (0 + 10) (by decide) (by decide)]; exact h.2.2
theorem z_rg_M2 {x : Int32} {S : xTr} (hR : z_RM f g W M m T D a k s e p) (hV : z_RV B W M m a k) (hB : B < 2 ^ 60) (hx : x_wi x 0 (nI (min k 300)) = true) (hl : y_reigns a W.2.1 (W.1 2 0 0) (W.1 0 0 0) (W.1 1 0 0) (x_c x) = .inr S) (hp : x_QMr r t W.1 W.2.1 f g x_dmA 518 k x q h') : z_EM f g (x_HR r t) (.int (nI S.2.2.1)) (W.1, W.2.1, some (S.1, S.2.1)) M m T D a 0 0 (0, -1) p q h' := by
  obtain ⟨e38, e506, e10, e2, e16, e17, p1, p2⟩ := hR.2.2.2.2
  unfold x_QMr at hp
  rw [hx, e506, hl] at hp
  obtain ⟨rfl, F, rfl, ⟨j1, j2, j3⟩, ⟨s2, s10, s16, s17⟩, h5⟩ := hp
  have hW : z_Rm (F 501) (g 502) (W.1, W.2.1, some (S.1, S.2.1)) := ⟨z_M_11 hR.1.1 (v_Bn_B hV.1.1 hB) (fun j h1 h2 => j3 j (by omega)), hR.1.2.1, h5⟩
  exact ⟨rfl, F, g, rfl, z_RM_k hR hV.2.1 hB hV.2.2.1 hW (fun j h1 h2 => j3 j (by omega)) (fun _ _ _ => rfl) (z_TM_fr hR.2.2.1 (j1 503 (by decide) (by decide) (by decide) (by decide)) (j1 504 (by decide) (by decide) (by decide) (by decide)) rfl) (z_DM_fr hR.2.2.2.1 (j2 37 (by decide)) (j1 517 (by decide) (by decide) (by decide) (by decide))) (j2 38 (by decide)) ⟨(j1 506 (by decide) (by decide) (by decide) (by decide)).trans e506, s10, s2, s16, s17, p1, p2⟩, fun c hc => ⟨j1 c (by omega) (by omega) (by omega) (by omega), rfl⟩⟩
theorem z_k9 : ∀ u h, u ≤ 600 → z_Inv u h → ∀ (a0 : Int32), x_TwoI (z_Inv (u + 1)) 106 223 [.int a0] h := fun u h hu hI a0 => by
  obtain ⟨r, t, f, g, W, M, m, T, D, a, k, s, e, p, hr, ht, rfl, hC, hRM, hV⟩ := hI
  obtain ⟨e14, e11, e5, e0, e6, e7, p1, p2⟩ := hC.2.2.2.2.1
  have hm := hV.2.2.1
  have hk9 := hV.2.2.2.1
  have hb : ∀ j, j < k → y_byt (f 11 j) := by rw [e11]; exact hV.2.2.2.2
  have hV1 := z_RV_m hV
  have hB := v_Bn_B hV.1.1 (z_B60 hu)
  have bK := v_B_K hB
  have bG := v_B_G hB
  have bP := v_B_P hB
  have v0 : f r 0 = nI (W.1 0 0 0) := hC.1.1.1 0 0 0 ⟨rfl, rfl⟩
  have v1 : f r 1 = nI (W.1 1 0 0) := hC.1.1.1 1 0 0 ⟨rfl, rfl⟩
  have v2 : f r 2 = nI (W.1 2 0 0) := hC.1.1.1 2 0 0 ⟨rfl, rfl⟩
  have hN := hC.1.2.1
  obtain ⟨L, hL, hA⟩ : ∃ L, ((t = 32 ∧ L = 39) ∨ (t = 39 ∧ L = 32)) ∧ x_Ct 106 1299 (.ref 0 :: [.int a0]) (f, g, x_HR r t, x_dmA, 518) (x_QCr r t L W.1 W.2.1 f g x_dmA 518 k a0) := by
    rcases hr with rfl | rfl
    · rcases ht with rfl | rfl
      · exact ⟨39, Or.inl ⟨rfl, rfl⟩, c_reigns_12_32 (d := 1293) e5 hk9 hb v0 v1 v2 bK bG bP hN z_600 z_610 z_611 (fun t ht => z_hr (Or.inl rfl) ht)⟩
      · exact ⟨32, Or.inr ⟨rfl, rfl⟩, c_reigns_12_39 (d := 1293) e5 hk9 hb v0 v1 v2 bK bG bP hN z_600 z_610 z_611 (fun t ht => z_hr (Or.inl rfl) ht)⟩
    · rcases ht with rfl | rfl
      · exact ⟨39, Or.inl ⟨rfl, rfl⟩, c_reigns_22_32 (d := 1293) e5 hk9 hb v0 v1 v2 bK bG bP hN z_600 z_610 z_611 (fun t ht => z_hr (Or.inr rfl) ht)⟩
      · exact ⟨32, Or.inr ⟨rfl, rfl⟩, c_reigns_22_39 (d := 1293) e5 hk9 hb v0 v1 v2 bK bG bP hN z_600 z_610 z_611 (fun t ht => z_hr (Or.inr rfl) ht)⟩
  have hmod : ∀ F G r' t', z_RM F G W M m T D a k s e p → x_Ct 223 1299 (.ref 500 :: [.int a0]) (F, G, x_HR r' t', x_dmA, 518) (x_QMr r' t' W.1 W.2.1 F G x_dmA 518 k a0) := fun F G r' t' hR => m_reigns (d := 1287) hR.2.2.2.2.2.2.1 hk9 (by rw [hR.2.2.2.2.2.1]; exact hV.2.2.2.2) (hR.1.1.1 0 0 0 ⟨rfl, rfl⟩) (hR.1.1.1 1 0 0 ⟨rfl, rfl⟩) (hR.1.1.1 2 0 0 ⟨rfl, rfl⟩) bK bG bP hR.1.2.1
  cases hx : x_wi a0 0 (nI (min k 300)) with
  | false =>
    refine z_two_I (w := -1) (T' := T) (D' := D) (s' := 1) (e' := e) (p' := p) hRM hA (fun q h' hp => ?_) (fun F G r' t' hR => ⟨_, hmod F G r' t' hR, fun q h' hp => ?_⟩) hV1
    · unfold x_QCr at hp
      rw [hx] at hp
      obtain ⟨rfl, rfl⟩ := hp
      exact ⟨rfl, r, t, _, _, hr, ht, rfl, z_RC_0 hC hr ht hm (fun c hc => x_up_k hc) (fun _ _ => rfl) (fun j hj => x_up_j hj) (x_up_s _ _ _ _) p1 p2, fun c c1 c2 => ⟨x_up_k (by omega), rfl⟩⟩
    · unfold x_QMr at hp
      rw [hx] at hp
      obtain ⟨rfl, rfl⟩ := hp
      exact ⟨rfl, _, _, rfl, z_RM_0 hR (fun c hc => x_up_k hc) (fun _ _ => rfl) (fun j hj => x_up_j hj) (x_up_s _ _ _ _) hR.2.2.2.2.2.2.2.2.2.2.1 hR.2.2.2.2.2.2.2.2.2.2.2, fun c c1 => ⟨x_up_k (by omega), rfl⟩⟩
  | true =>
    cases hl : y_reigns a W.2.1 (W.1 2 0 0) (W.1 0 0 0) (W.1 1 0 0) (x_c a0) with
    | inl e1 => exact z_two_I hRM hA (fun q h' hp => z_rg_C1 hC hm hr hL hx hl hp) (fun F G r' t' hR => ⟨_, hmod F G r' t' hR, fun q h' hp => z_rg_M1 hR hV (z_B60 hu) hx hl hp⟩) ⟨hV1.1, hV1.2.1, hm, Nat.zero_le _, fun j hj => absurd hj (Nat.not_lt_zero _)⟩
    | inr S =>
      obtain ⟨i1, i2⟩ := y_rns_end _ _ _ _ (y_RI_0 (W.1 2 0 0) (W.1 0 0 0) (W.1 1 0 0)) hl
      exact z_two_I hRM hA (fun q h' hp => z_rg_C2 hC hm hr hL hx hl hp) (fun F G r' t' hR => ⟨_, hmod F G r' t' hR, fun q h' hp => z_rg_M2 hR hV (z_B60 hu) hx hl hp⟩) ⟨⟨hV1.1.1, y_RI_SV i1 i2⟩, hV1.2.1, hm, Nat.zero_le _, fun j hj => absurd hj (Nat.not_lt_zero _)⟩
end Cc5
