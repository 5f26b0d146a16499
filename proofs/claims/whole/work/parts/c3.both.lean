/-! marks on both sides -/
section Cc3
variable {f F : Nat → Nat → Int32} {g G : Nat → Nat → Int64} {r t r' t' L u B : Nat} {W W' : zW} {M M' : Nat → zW} {m m' : Nat} {T T' : xT} {D D' : Option (Nat → Nat)} {a a' : Nat → Int32} {k k' : Nat} {s s' : Int32} {e e' : Int32 × Int32} {p p' : Int64 × Int64} {ρ : Nat → Nat → Option Nat} {q : Option Value} {h h' : xH}
theorem z_SO01 {S : xP} (h : x_SO f t S) : f t 0 = 0 ∨ f t 0 = 1 := by
  cases S with
  | none => exact Or.inl h
  | some q => exact Or.inr h.1
/-- a land copied, story and all, from (L, t) to (L', t') -/
theorem z_Rc_cp {F1 F2 : Nat → Nat → Int32} {G1 : Nat → Nat → Int64} {L' t' : Nat} (hR : z_Rc f g L t W) (hv : z_Rv B W) (hB : B < 2 ^ 60) (h1 : x_CP f g L' L F1 G1) (h2 : x_CS F1 t' t F2) (hd : t' + 6 < L' ∨ L' + 9 < t') (hd2 : t + 6 < L' ∨ L' + 9 < t) : z_Rc F2 G1 L' t' W := by
  have hb := v_Bn_B hv.1 hB
  have hf1 := h1.2.2.2.2.2.1
  refine ⟨v_C_fr (x_CP_v h1 hR.1 hb) (fun c c1 c2 => h2.2.2 c (by omega)) rfl, z_NR_fr hR.2.1 hb (fun j hj => h1.2.2.2.2.1 j hj), x_CS_S h2 (z_SO_fr hR.2.2 (fun c c1 c2 => hf1 c (by omega))) (z_NL hv.2)⟩
theorem z_mark_C {F1 F2 : Nat → Nat → Int32} {G1 : Nat → Nat → Int64} (hR : z_RC r t f g W M m T D a k s e p) (hV : z_RV B W M m a k) (hB : B < 2 ^ 60) (hr : r = 12 ∨ r = 22) (ht : t = 32 ∨ t = 39) (hm : m < 3) (h1 : x_CP f g (48 + 17 * m) r F1 G1) (h2 : x_CS F1 (58 + 17 * m) t F2) : z_EC f g (.int (nI (m + 1))) W (va_up M m W) (m + 1) T D a k 0 e p (some (.int (nI (m + 1)))) (x_up (x_up F2 0 14 (nI (m + 1))) 0 0 0, G1, x_HR r t, x_dmA, 518) := by
  obtain ⟨e14, e11, e5, e0, e6, e7, p1, p2⟩ := hR.2.2.2.2.1
  have hf1 := h1.2.2.2.2.2.1
  have hg1 := h1.2.2.2.2.2.2
  have hf2 := h2.2.2
  have hc : ∀ c, c ≠ 0 → x_up (x_up F2 0 14 (nI (m + 1))) 0 0 0 c = F2 c := fun c hc => by rw [x_up_k hc, x_up_k hc]
  have hj : ∀ j, j ≠ 0 → j ≠ 14 → x_up (x_up F2 0 14 (nI (m + 1))) 0 0 0 0 j = f 0 j := fun j j1 j2 => by
    rw [x_up_j j1, x_up_j j2, hf2 0 (by omega), hf1 0 (by omega)]
  have hF : ∀ c, c ≠ 0 → c < 48 + 17 * m ∨ 64 + 17 * m < c → x_up (x_up F2 0 14 (nI (m + 1))) 0 0 0 c = f c := fun c c1 c2 => by
    rw [hc c c1, hf2 c (by omega), hf1 c (by omega)]
  have hG : ∀ c, c < 48 + 17 * m ∨ 64 + 17 * m < c → G1 c = g c := fun c c2 => hg1 c (by omega) (by omega)
  have hnew : z_Rc F2 G1 (48 + 17 * m) (58 + 17 * m) W := z_Rc_cp hR.1 hV.1 hB h1 h2 (by omega) (by omega)
  refine ⟨rfl, r, t, _, _, hr, ht, rfl, ⟨z_Rc_fr hR.1 (fun c c1 c2 => hF c (by omega) (by omega)) (hG r (by omega)) (hG _ (by omega)) (fun c c1 c2 => hF c (by omega) (by omega)), fun i hi => ?_, z_TC_fr hR.2.2.1 (fun c c1 c2 => hF c (by omega) (by omega)) (fun c c1 c2 => hG c (by omega)), z_DC_fr hR.2.2.2.1 (hj 19 (by decide) (by decide)) (hF 102 (by decide) (by omega)) (hG 102 (by omega)), ⟨by rw [x_up_j (by decide), x_up_s], (hF 11 (by decide) (by omega)).trans e11, (hj 5 (by decide) (by decide)).trans e5, x_up_s _ _ _ _, (hj 6 (by decide) (by decide)).trans e6, (hj 7 (by decide) (by decide)).trans e7, by rw [hG 0 (by omega)]; exact p1, by rw [hG 0 (by omega)]; exact p2⟩, fun i hi => ?_⟩, fun c c1 c2 => ⟨hF c (by omega) (by omega), hG c (by omega)⟩⟩
  · by_cases hi2 : i = m
    · subst hi2
      rw [x_us]
      exact z_Rc_fr hnew (fun c c1 c2 => hc c (by omega)) rfl rfl (fun c c1 c2 => hc c (by omega))
    · rw [x_un hi2]
      exact z_Rc_fr (hR.2.1 i (by omega)) (fun c c1 c2 => hF c (by omega) (by omega)) (hG _ (by omega)) (hG _ (by omega)) (fun c c1 c2 => hF c (by omega) (by omega))
  · by_cases hi2 : i = m
    · subst hi2
      rw [hc _ (by omega)]
      exact z_SO01 hnew.2.2
    · rw [hF (58 + 17 * i) (by omega) (by omega)]
      exact hR.2.2.2.2.2 i (by omega)
theorem z_mark_M (hR : z_RM f g W M m T D a k s e p) (hV : z_RV B W M m a k) (hB : B < 2 ^ 60) (hm : m < 3) (h1 : x_CM (x_up f 500 38 (nI (m + 1))) g 0 (m + 1) F G) : z_EM f g ρ (.int (nI (m + 1))) W (va_up M m W) (m + 1) T D a k 0 e p (some (.int (nI (m + 1)))) (x_up F 500 2 0, G, ρ, x_dmA, 518) := by
  obtain ⟨e38, e506, e10, e2, e16, e17, p1, p2⟩ := hR.2.2.2.2
  obtain ⟨c1, c2, c3, c4⟩ := h1
  have hc : ∀ c, c ≠ 500 → c ≠ 501 → x_up F 500 2 0 c = f c := fun c q1 q2 => by rw [x_up_k q1, c3 c q2, x_up_k q1]
  have hj : ∀ j, j ≠ 2 → j ≠ 38 → x_up F 500 2 0 500 j = f 500 j := fun j j1 j2 => by rw [x_up_j j1, c3 500 (by decide), x_up_j j2]
  have h5 : ∀ j, j < 464 * (m + 1) ∨ 464 * (m + 1) + 464 ≤ j → x_up F 500 2 0 501 j = f 501 j := fun j q => by
    rw [x_up_k (by decide), c1, if_neg (by omega), x_up_k (by decide)]
  have g5 : ∀ j, j < 14 * (m + 1) ∨ 14 * (m + 1) + 14 ≤ j → G 502 j = g 502 j := fun j q => by rw [c2, if_neg (by omega)]
  refine ⟨rfl, _, _, rfl, ⟨z_Rm_fr hR.1 hV.1 hB (fun j hj => h5 j (by omega)) (fun j hj => g5 j (by omega)), fun i hi => ?_, z_TM_fr hR.2.2.1 (hc 503 (by decide) (by decide)) (hc 504 (by decide) (by decide)) (c4 505 (by decide)), z_DM_fr hR.2.2.2.1 (hj 37 (by decide) (by decide)) (hc 517 (by decide) (by decide)), ?_, (hc 506 (by decide) (by decide)).trans e506, (hj 10 (by decide) (by decide)).trans e10, x_up_s _ _ _ _, (hj 16 (by decide) (by decide)).trans e16, (hj 17 (by decide) (by decide)).trans e17, by rw [c4 500 (by decide)]; exact p1, by rw [c4 500 (by decide)]; exact p2⟩, fun c q => ⟨hc c (by omega) (by omega), c4 c (by omega)⟩⟩
  · by_cases hi2 : i = m
    · subst hi2
      rw [x_us]
      refine z_Rm_fr hR.1 hV.1 hB (fun j hj => ?_) (fun j hj => ?_)
      · rw [x_up_k (by decide), c1, if_pos (by omega), x_up_k (by decide)]
        exact congrArg (f 501) (by omega)
      · show G 502 _ = _
        rw [c2, if_pos (by omega)]
        exact congrArg (g 502) (by omega)
    · rw [x_un hi2]
      exact z_Rm_fr (hR.2.1 i (by omega)) (hV.2.1 i (by omega)) hB (fun j hj => h5 _ (by omega)) (fun j hj => g5 _ (by omega))
  · rw [x_up_j (by decide), c3 500 (by decide), x_up_s]
theorem z_undo_C {F1 F2 : Nat → Nat → Int32} {G1 : Nat → Nat → Int64} (hR : z_RC r t f g W M (m + 1) T D a k s e p) (hV : z_RV B W M (m + 1) a k) (hB : B < 2 ^ 60) (hr : r = 12 ∨ r = 22) (ht : t = 32 ∨ t = 39) (h1 : x_CP (x_up f 0 14 (nI m)) g r (48 + 17 * m) F1 G1) (h2 : x_CS F1 t (58 + 17 * m) F2) : z_EC f g (.int (nI m)) (M m) M m T D a k 0 e p (some (.int (nI m))) (x_up F2 0 0 0, G1, x_HR r t, x_dmA, 518) := by
  obtain ⟨e14, e11, e5, e0, e6, e7, p1, p2⟩ := hR.2.2.2.2.1
  have hm := hV.2.2.1
  have hf1 := h1.2.2.2.2.2.1
  have hg1 := h1.2.2.2.2.2.2
  have hf2 := h2.2.2
  have hc : ∀ c, c ≠ 0 → x_up F2 0 0 0 c = F2 c := fun c hc => x_up_k hc
  have hj : ∀ j, j ≠ 0 → j ≠ 14 → x_up F2 0 0 0 0 j = f 0 j := fun j j1 j2 => by
    rw [x_up_j j1, hf2 0 (by omega), hf1 0 (by omega), x_up_j j2]
  have hF : ∀ c, c ≠ 0 → c < r ∨ r + 9 < c → c < t ∨ t + 6 < c → x_up F2 0 0 0 c = f c := fun c c1 c2 c3 => by
    rw [hc c c1, hf2 c (by omega), hf1 c (by omega), x_up_k c1]
  have hG : ∀ c, c < r ∨ r + 9 < c → G1 c = g c := fun c c2 => hg1 c (by omega) (by omega)
  have hold : z_Rc (x_up f 0 14 (nI m)) g (48 + 17 * m) (58 + 17 * m) (M m) := z_Rc_fr (hR.2.1 m (by omega)) (fun c c1 c2 => x_up_k (by omega)) rfl rfl (fun c c1 c2 => x_up_k (by omega))
  have hnew : z_Rc F2 G1 r t (M m) := z_Rc_cp hold (hV.2.1 m (by omega)) hB h1 h2 (by omega) (by omega)
  refine ⟨rfl, r, t, _, _, hr, ht, rfl, ⟨z_Rc_fr hnew (fun c c1 c2 => hc c (by omega)) rfl rfl (fun c c1 c2 => hc c (by omega)), fun i hi => ?_, z_TC_fr hR.2.2.1 (fun c c1 c2 => hF c (by omega) (by omega) (by omega)) (fun c c1 c2 => hG c (by omega)), z_DC_fr hR.2.2.2.1 (hj 19 (by decide) (by decide)) (hF 102 (by decide) (by omega) (by omega)) (hG 102 (by omega)), ⟨?_, (hF 11 (by decide) (by omega) (by omega)).trans e11, (hj 5 (by decide) (by decide)).trans e5, x_up_s _ _ _ _, (hj 6 (by decide) (by decide)).trans e6, (hj 7 (by decide) (by decide)).trans e7, by rw [hG 0 (by omega)]; exact p1, by rw [hG 0 (by omega)]; exact p2⟩, fun i hi => ?_⟩, fun c c1 c2 => ⟨hF c (by omega) (by omega) (by omega), hG c (by omega)⟩⟩
  · exact z_Rc_fr (hR.2.1 i (by omega)) (fun c c1 c2 => hF c (by omega) (by omega) (by omega)) (hG _ (by omega)) (hG _ (by omega)) (fun c c1 c2 => hF c (by omega) (by omega) (by omega))
  · rw [x_up_j (by decide), hf2 0 (by omega), hf1 0 (by omega), x_up_s]
  · rw [hF (58 + 17 * i) (by omega) (by omega) (by omega)]
    exact hR.2.2.2.2.2 i (by omega)
theorem z_undo_M (hR : z_RM f g W M (m + 1) T D a k s e p) (hV : z_RV B W M (m + 1) a k) (hB : B < 2 ^ 60) (h1 : x_CM f g (m + 1) 0 F G) : z_EM f g ρ (.int (nI m)) (M m) M m T D a k 0 e p (some (.int (nI m))) (x_up (x_up F 500 38 (nI m)) 500 2 0, G, ρ, x_dmA, 518) := by
  obtain ⟨e38, e506, e10, e2, e16, e17, p1, p2⟩ := hR.2.2.2.2
  obtain ⟨c1, c2, c3, c4⟩ := h1
  have hc : ∀ c, c ≠ 500 → c ≠ 501 → x_up (x_up F 500 38 (nI m)) 500 2 0 c = f c := fun c q1 q2 => by rw [x_up_k q1, x_up_k q1, c3 c q2]
  have hj : ∀ j, j ≠ 2 → j ≠ 38 → x_up (x_up F 500 38 (nI m)) 500 2 0 500 j = f 500 j := fun j j1 j2 => by rw [x_up_j j1, x_up_j j2, c3 500 (by decide)]
  have h5 : ∀ j, 464 ≤ j → x_up (x_up F 500 38 (nI m)) 500 2 0 501 j = f 501 j := fun j q => by
    rw [x_up_k (by decide), x_up_k (by decide), c1, if_neg (by omega)]
  have g5 : ∀ j, 14 ≤ j → G 502 j = g 502 j := fun j q => by rw [c2, if_neg (by omega)]
  refine ⟨rfl, _, _, rfl, ⟨z_Rm_fr (hR.2.1 m (by omega)) (hV.2.1 m (by omega)) hB (fun j hj => ?_) (fun j hj => ?_), fun i hi => z_Rm_fr (hR.2.1 i (by omega)) (hV.2.1 i (by omega)) hB (fun j hj => h5 _ (by omega)) (fun j hj => g5 _ (by omega)), z_TM_fr hR.2.2.1 (hc 503 (by decide) (by decide)) (hc 504 (by decide) (by decide)) (c4 505 (by decide)), z_DM_fr hR.2.2.2.1 (hj 37 (by decide) (by decide)) (hc 517 (by decide) (by decide)), ?_, (hc 506 (by decide) (by decide)).trans e506, (hj 10 (by decide) (by decide)).trans e10, x_up_s _ _ _ _, (hj 16 (by decide) (by decide)).trans e16, (hj 17 (by decide) (by decide)).trans e17, by rw [c4 500 (by decide)]; exact p1, by rw [c4 500 (by decide)]; exact p2⟩, fun c q => ⟨hc c (by omega) (by omega), c4 c (by omega)⟩⟩
  · rw [x_up_k (by decide), x_up_k (by decide), c1, if_pos (by omega)]
    exact congrArg (f 501) (by omega)
  · rw [c2, if_pos (by omega)]
    exact congrArg (g 502) (by omega)
  · rw [x_up_j (by decide), x_up_s]
theorem z_k57 : ∀ u h, u ≤ 600 → z_Inv u h → x_TwoI (z_Inv (u + 1)) 154 326 [] h := fun u h hu hI => by
  obtain ⟨r, t, f, g, W, M, m, T, D, a, k, s, e, p, hr, ht, rfl, hC, hRM, hV⟩ := hI
  have hb := z_SO01 hC.1.2.2
  obtain ⟨e14, e11, e5, e0, e6, e7, p1, p2⟩ := hC.2.2.2.2.1
  have hm := hV.2.2.1
  obtain ⟨PA, hPA, hA⟩ : ∃ PA : Option Value → xH → Prop, PA = (fun q h' => if m = 3 then q = some (.int (-1)) ∧ h' = (x_up f 0 0 4, g, x_HR r t, x_dmA, 518) else q = some (.int (nI (m + 1))) ∧ ∃ F1 G1 F2, x_CP f g (48 + 17 * m) r F1 G1 ∧ x_CS F1 (58 + 17 * m) t F2 ∧ h' = (x_up (x_up F2 0 14 (nI (m + 1))) 0 0 0, G1, x_HR r t, x_dmA, 518)) ∧ x_Ct 154 1299 (.ref 0 :: []) (f, g, x_HR r t, x_dmA, 518) PA := by
    rcases hr with rfl | rfl
    · rcases ht with rfl | rfl
      · exact ⟨_, rfl, c_mark_12_32 (d := 1297) e14 hm hb⟩
      · exact ⟨_, rfl, c_mark_12_39 (d := 1297) e14 hm hb⟩
    · rcases ht with rfl | rfl
      · exact ⟨_, rfl, c_mark_22_32 (d := 1297) e14 hm hb⟩
      · exact ⟨_, rfl, c_mark_22_39 (d := 1297) e14 hm hb⟩
  by_cases h3 : m = 3
  · refine z_two_I (w := -1) (T' := T) (D' := D) (s' := 4) (e' := e) (p' := p) hRM hA (fun q h' hp => ?_) (fun F G r' t' hR => ⟨_, m_mark (d := 1298) hR.2.2.2.2.1 hm, fun q h' hp => ?_⟩) (z_RV_m hV)
    · rw [hPA] at hp
      simp only [if_pos h3] at hp
      obtain ⟨rfl, rfl⟩ := hp
      exact ⟨rfl, r, t, _, _, hr, ht, rfl, z_RC_0 hC hr ht hm (fun c hc => x_up_k hc) (fun _ _ => rfl) (fun j hj => x_up_j hj) (x_up_s _ _ _ _) p1 p2, fun c c1 c2 => ⟨x_up_k (by omega), rfl⟩⟩
    · simp only [if_pos h3] at hp
      obtain ⟨rfl, rfl⟩ := hp
      exact ⟨rfl, _, _, rfl, z_RM_0 hR (fun c hc => x_up_k hc) (fun _ _ => rfl) (fun j hj => x_up_j hj) (x_up_s _ _ _ _) hR.2.2.2.2.2.2.2.2.2.2.1 hR.2.2.2.2.2.2.2.2.2.2.2, fun c c1 => ⟨x_up_k (by omega), rfl⟩⟩
  · have hV1 := z_RV_m hV
    refine z_two_I (w := nI (m + 1)) (W' := W) (M' := va_up M m W) (m' := m + 1) (a' := a) (k' := k) (T' := T) (D' := D) (s' := 0) (e' := e) (p' := p) hRM hA (fun q h' hp => ?_) (fun F G r' t' hR => ⟨_, m_mark (d := 1298) hR.2.2.2.2.1 hm, fun q h' hp => ?_⟩) ⟨hV1.1, fun i hi => ?_, by omega, hV1.2.2.2⟩
    · rw [hPA] at hp
      simp only [if_neg h3] at hp
      obtain ⟨rfl, F1, G1, F2, c1, c2, rfl⟩ := hp
      exact z_mark_C hC hV (z_B60 hu) hr ht (by omega) c1 c2
    · simp only [if_neg h3] at hp
      obtain ⟨rfl, F1, G1, c1, rfl⟩ := hp
      exact z_mark_M hR hV (z_B60 hu) (by omega) c1
    · by_cases hi2 : i = m
      · rw [hi2, x_us]
        exact hV1.1
      · rw [x_un hi2]
        exact hV1.2.1 i (by omega)
theorem z_k58 : ∀ u h, u ≤ 600 → z_Inv u h → x_TwoI (z_Inv (u + 1)) 155 327 [] h := fun u h hu hI => by
  obtain ⟨r, t, f, g, W, M, m, T, D, a, k, s, e, p, hr, ht, rfl, hC, hRM, hV⟩ := hI
  have hb := hC.2.2.2.2.2
  obtain ⟨e14, e11, e5, e0, e6, e7, p1, p2⟩ := hC.2.2.2.2.1
  have hm := hV.2.2.1
  obtain ⟨PA, hPA, hA⟩ : ∃ PA : Option Value → xH → Prop, PA = (fun q h' => if m = 0 then q = some (.int (-1)) ∧ h' = (x_up f 0 0 6, g, x_HR r t, x_dmA, 518) else q = some (.int (nI (m - 1))) ∧ ∃ F1 G1 F2, x_CP (x_up f 0 14 (nI (m - 1))) g r (48 + 17 * (m - 1)) F1 G1 ∧ x_CS F1 t (58 + 17 * (m - 1)) F2 ∧ h' = (x_up F2 0 0 0, G1, x_HR r t, x_dmA, 518)) ∧ x_Ct 155 1299 (.ref 0 :: []) (f, g, x_HR r t, x_dmA, 518) PA := by
    rcases hr with rfl | rfl
    · rcases ht with rfl | rfl
      · exact ⟨_, rfl, c_undo_12_32 (d := 1297) e14 hm hb⟩
      · exact ⟨_, rfl, c_undo_12_39 (d := 1297) e14 hm hb⟩
    · rcases ht with rfl | rfl
      · exact ⟨_, rfl, c_undo_22_32 (d := 1297) e14 hm hb⟩
      · exact ⟨_, rfl, c_undo_22_39 (d := 1297) e14 hm hb⟩
  cases m with
  | zero =>
    refine z_two_I (w := -1) (T' := T) (D' := D) (s' := 6) (e' := e) (p' := p) hRM hA (fun q h' hp => ?_) (fun F G r' t' hR => ⟨_, m_undo (d := 1298) hR.2.2.2.2.1 hm, fun q h' hp => ?_⟩) (z_RV_m hV)
    · rw [hPA] at hp
      simp only [if_true] at hp
      obtain ⟨rfl, rfl⟩ := hp
      exact ⟨rfl, r, t, _, _, hr, ht, rfl, z_RC_0 hC hr ht hm (fun c hc => x_up_k hc) (fun _ _ => rfl) (fun j hj => x_up_j hj) (x_up_s _ _ _ _) p1 p2, fun c c1 c2 => ⟨x_up_k (by omega), rfl⟩⟩
    · simp only [if_true] at hp
      obtain ⟨rfl, rfl⟩ := hp
      exact ⟨rfl, _, _, rfl, z_RM_0 hR (fun c hc => x_up_k hc) (fun _ _ => rfl) (fun j hj => x_up_j hj) (x_up_s _ _ _ _) hR.2.2.2.2.2.2.2.2.2.2.1 hR.2.2.2.2.2.2.2.2.2.2.2, fun c c1 => ⟨x_up_k (by omega), rfl⟩⟩
  | succ m =>
    have hV1 := z_RV_m hV
    refine z_two_I (w := nI m) (W' := M m) (M' := M) (m' := m) (a' := a) (k' := k) (T' := T) (D' := D) (s' := 0) (e' := e) (p' := p) hRM hA (fun q h' hp => ?_) (fun F G r' t' hR => ⟨_, m_undo (d := 1298) hR.2.2.2.2.1 hm, fun q h' hp => ?_⟩) ⟨hV1.2.1 m (by omega), fun i hi => hV1.2.1 i (by omega), by omega, hV1.2.2.2⟩
    · rw [hPA] at hp
      simp only [if_neg (Nat.succ_ne_zero m)] at hp
      obtain ⟨rfl, F1, G1, F2, c1, c2, rfl⟩ := hp
      exact z_undo_C hC hV (z_B60 hu) hr ht c1 c2
    · simp only [if_neg (Nat.succ_ne_zero m)] at hp
      obtain ⟨rfl, F1, G1, c1, rfl⟩ := hp
      exact z_undo_M hR hV (z_B60 hu) c1
end Cc3
