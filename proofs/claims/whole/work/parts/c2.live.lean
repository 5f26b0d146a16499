/-! forged, live, lived, mean on both sides -/
def z_fr (p : Int64 × Int64) (o : Option (Nat × Nat)) : Int64 × Int64 := match o with
  | none => p
  | some w => (lN w.1, lN w.2)
section Cc2
variable {f F : Nat → Nat → Int32} {g G : Nat → Nat → Int64} {r t r' t' L u B : Nat} {W W' : zW} {M M' : Nat → zW} {m m' : Nat} {T T' : xT} {D D' : Option (Nat → Nat)} {a a' : Nat → Int32} {k k' : Nat} {s s' : Int32} {e e' : Int32 × Int32} {p p' : Int64 × Int64} {ρ : Nat → Nat → Option Nat} {q : Option Value} {h h' : xH}
theorem z_RC_0 (hR : z_RC r t f g W M m T D a k s e p) (hr : r = 12 ∨ r = 22) (ht : t = 32 ∨ t = 39) (hm : m ≤ 3) (hf : ∀ c, c ≠ 0 → F c = f c) (hg : ∀ c, c ≠ 0 → G c = g c) (hj : ∀ j, j ≠ 0 → F 0 j = f 0 j) (h0 : F 0 0 = s') (h1 : G 0 1 = p'.1) (h2 : G 0 2 = p'.2) : z_RC r t F G W M m T D a k s' e p' := by
  obtain ⟨e14, e11, e5, e0, e6, e7, p1, p2⟩ := hR.2.2.2.2.1
  exact z_RC_k hR (z_Rc_fr hR.1 (fun c c1 c2 => hf c (by omega)) (hg r (by omega)) (hg _ (by omega)) (fun c c1 c2 => hf c (by omega))) (fun c c1 c2 => ⟨hf c (by omega), hg c (by omega)⟩) (z_TC_fr hR.2.2.1 (fun c c1 c2 => hf c (by omega)) (fun c c1 c2 => hg c (by omega))) (z_DC_fr hR.2.2.2.1 (hj 19 (by decide)) (hf 102 (by decide)) (hg 102 (by decide))) (hj 14 (by decide)) ⟨(hf 11 (by decide)).trans e11, (hj 5 (by decide)).trans e5, h0, (hj 6 (by decide)).trans e6, (hj 7 (by decide)).trans e7, h1, h2⟩ hm
theorem z_RM_0 (hR : z_RM f g W M m T D a k s e p) (hf : ∀ c, c ≠ 500 → F c = f c) (hg : ∀ c, c ≠ 500 → G c = g c) (hj : ∀ j, j ≠ 2 → F 500 j = f 500 j) (h0 : F 500 2 = s') (h1 : G 500 3 = p'.1) (h2 : G 500 4 = p'.2) : z_RM F G W M m T D a k s' e p' := by
  obtain ⟨q1, q2, q3, q4, e38, e506, e10, e2, e16, e17, p1, p2⟩ := hR
  have e1 := hf 501 (by decide)
  have g2 := hg 502 (by decide)
  refine ⟨?_, ?_, z_TM_fr q3 (hf 503 (by decide)) (hf 504 (by decide)) (hg 505 (by decide)), z_DM_fr q4 (hj 37 (by decide)) (hf 517 (by decide)), (hj 38 (by decide)).trans e38, (hf 506 (by decide)).trans e506, (hj 10 (by decide)).trans e10, h0, (hj 16 (by decide)).trans e16, (hj 17 (by decide)).trans e17, h1, h2⟩
  · rw [e1, g2]; exact q1
  · rw [e1, g2]; exact q2
theorem z_k46 : ∀ u h, u ≤ 600 → z_Inv u h → ∀ (a0 : Int32) (a1 : Int32) (a2 : Int32), x_TwoI (z_Inv (u + 1)) 143 295 [.int a0, .int a1, .int a2] h := fun u h hu hI a0 a1 a2 => by
  obtain ⟨r, t, f, g, W, M, m, T, D, a, k, s, e, p, hr, ht, rfl, hC, hRM, hV⟩ := hI
  cases hS : sp_forged a0 a1 a2 with
  | none =>
    refine z_two_I (w := 0) (T' := T) (D' := D) (s' := 1) (e' := e) (p' := p) hRM (c_forged (d := 1297)) (fun q h' hp => ?_) (fun F G r' t' hR => ⟨_, m_forged (d := 1297), fun q h' hp => ?_⟩) (z_RV_m hV)
    · rw [hS] at hp
      obtain ⟨rfl, rfl⟩ := hp
      exact ⟨rfl, r, t, _, _, hr, ht, rfl, z_RC_0 hC hr ht hV.2.2.1 (fun c hc => x_up_k hc) (fun _ _ => rfl) (fun j hj => x_up_j hj) (x_up_s _ _ _ _) hC.2.2.2.2.1.2.2.2.2.2.2.1 hC.2.2.2.2.1.2.2.2.2.2.2.2, fun c c1 c2 => ⟨x_up_k (by omega), rfl⟩⟩
    · rw [hS] at hp
      obtain ⟨rfl, rfl⟩ := hp
      exact ⟨rfl, _, _, rfl, z_RM_0 hR (fun c hc => x_up_k hc) (fun _ _ => rfl) (fun j hj => x_up_j hj) (x_up_s _ _ _ _) hR.2.2.2.2.2.2.2.2.2.2.1 hR.2.2.2.2.2.2.2.2.2.2.2, fun c c1 => ⟨x_up_k (by omega), rfl⟩⟩
  | some R =>
    refine z_two_I (w := 1) (T' := T) (D' := D) (s' := 0) (e' := e) (p' := (lN R.1, lN R.2)) hRM (c_forged (d := 1297)) (fun q h' hp => ?_) (fun F G r' t' hR => ⟨_, m_forged (d := 1297), fun q h' hp => ?_⟩) (z_RV_m hV)
    · rw [hS] at hp
      obtain ⟨rfl, rfl⟩ := hp
      exact ⟨rfl, r, t, _, _, hr, ht, rfl, z_RC_0 hC hr ht hV.2.2.1 (fun c hc => x_up_k hc) (fun c hc => by rw [x_up_k hc, x_up_k hc]) (fun j hj => x_up_j hj) (x_up_s _ _ _ _) (by rw [x_up_j (by decide), x_up_s]) (x_up_s _ _ _ _), fun c c1 c2 => ⟨x_up_k (by omega), by rw [x_up_k (by omega), x_up_k (by omega)]⟩⟩
    · rw [hS] at hp
      obtain ⟨rfl, rfl⟩ := hp
      exact ⟨rfl, _, _, rfl, z_RM_0 hR (fun c hc => x_up_k hc) (fun c hc => by rw [x_up_k hc, x_up_k hc]) (fun j hj => x_up_j hj) (x_up_s _ _ _ _) (by rw [x_up_j (by decide), x_up_s]) (x_up_s _ _ _ _), fun c c1 => ⟨x_up_k (by omega), by rw [x_up_k (by omega), x_up_k (by omega)]⟩⟩
theorem z_lived {N : Nat} {v : xV} {x : Int32} (h : v_Bn N v) : z_ok N v (sp_lived v D x) := z_sq_ok h (fun _ S hS => by
  cases D with
  | none => cases hS
  | some w => cases hS; exact z_kp_0 h)
theorem z_k55 : ∀ u h, u ≤ 600 → z_Inv u h → ∀ (a0 : Int32), x_TwoI (z_Inv (u + 1)) 152 323 [.int a0] h := fun u h hu hI a0 => by
  obtain ⟨r, t, f, g, W, M, m, T, D, a, k, s, e, p, hr, ht, rfl, hC, hRM, hV⟩ := hI
  obtain ⟨⟨w, hw⟩, hkp⟩ := z_lived (D := D) (x := a0) hV.1.1
  have hmod : ∀ F G r' t', z_RM F G W M m T D a k s e p → ∃ PB, x_Ct 323 1299 (.ref 500 :: [.int a0]) (F, G, x_HR r' t', x_dmA, 518) PB ∧ ∀ q h', PB q h' → z_EM F G (x_HR r' t') (.int w) ((sp_lived W.1 D a0).2.2, W.2) M m T D a k (sp_lived W.1 D a0).2.1 e p q h' := fun F G r' t' hR => ⟨_, m_lived (d := 1298) hR.1.1 hR.2.2.2.1, fun q h' hp => by
    rw [← hw]
    exact z_PM_E hR hV.2.1 (z_B60 hu) hV.2.2.1 hV.1.2 hkp.2 hp⟩
  have hV' := z_RV_v hV hkp
  rcases hr with rfl | rfl
  · exact z_two_I hRM (c_lived_12 (d := 1296) hC.1.1 hC.2.2.2.1) (fun q h' hp => by rw [← hw]; exact z_PC_E hC hV.2.2.1 (Or.inl rfl) ht hkp.2 hp) hmod hV'
  · exact z_two_I hRM (c_lived_22 (d := 1296) hC.1.1 hC.2.2.2.1) (fun q h' hp => by rw [← hw]; exact z_PC_E hC hV.2.2.1 (Or.inr rfl) ht hkp.2 hp) hmod hV'
theorem z_live {N : Nat} {v : xV} {S : xP} {x : Int32} (h : v_Bn N v) (hN : N + 2 ^ 33 < 2 ^ 60) (hV : y_SO v S) : z_ok N v (sp_live v S x) := z_sq_ok h (fun hk Q hQ => by
  cases S with
  | none => cases hQ
  | some c =>
    cases hQ
    have q := z_wic hk (by decide)
    have e2 : (9999 : Int32).toInt = 9999 := rfl
    have hin := y_life_in (seed := x_c x) (p := c) hV h hN (by omega)
    show z_kp N v (y_life v c (x_c x)).2.2.1
    generalize y_life v c (x_c x) = E at hin
    obtain ⟨k, R, v', ch, st, mi, mo, bo, le⟩ := E
    obtain ⟨i1, i2, i3, i4, i5, i6, i7, i8, i9⟩ := hin
    exact ⟨v_Bn_mono i7 (by omega), i8⟩)
theorem z_PC2_E {S : xS} (hR : z_RC L t f g W M m T D a k s e p) (hm : m ≤ 3) (hL : L = 12 ∨ L = 22) (ht : t = 32 ∨ t = 39) (hc : ∀ c, c ≤ 2 → S.2.2 c 0 0 = W.1 c 0 0) (hp : x_PC2 f g L (x_HR L t) x_dmA 518 S D' q h') : z_EC f g S.1 (S.2.2, W.2) M m T D' a k S.2.1 e p q h' := by
  obtain ⟨F, G, rfl, rfl, hC, h0, hj, hg0, hg2, hk, hD⟩ := hp
  obtain ⟨e14, e11, e5, e0, e6, e7, p1, p2⟩ := hR.2.2.2.2.1
  refine ⟨rfl, L, t, F, G, hL, ht, rfl, z_RC_k hR ⟨hC, ?_, z_SO_fr hR.1.2.2 (fun c c1 c2 => (hk c (by omega) (by omega) (by omega) (by omega) (by omega)).1)⟩ (fun c c1 c2 => hk c (by omega) (by omega) (by omega) (by omega) (by omega)) (z_TC_fr hR.2.2.1 (fun c c1 c2 => (hk c (by omega) (by omega) (by omega) (by omega) (by omega)).1) (fun c c1 c2 => (hk c (by omega) (by omega) (by omega) (by omega) (by omega)).2)) hD (hj 14 (by decide) (by decide)) ⟨(hk 11 (by decide) (by omega) (by decide) (by decide) (by decide)).1.trans e11, (hj 5 (by decide) (by decide)).trans e5, h0, (hj 6 (by decide) (by decide)).trans e6, (hj 7 (by decide) (by decide)).trans e7, by rw [hg0]; exact p1, by rw [hg0]; exact p2⟩ hm, fun c c1 c2 => hk c (by omega) (by omega) (by omega) (by omega) (by omega)⟩
  show y_NR (G (L + 2)) S.2.2 W.2.1
  rw [hg2]
  exact y_NR_v hR.1.2.1 (hc 0 (by decide)) (hc 1 (by decide)) (hc 2 (by decide))
theorem z_PM2_E {S : xS} (hR : z_RM f g W M m T D a k s e p) (hV : ∀ i, i < m → z_Rv B (M i)) (hB : B < 2 ^ 60) (hm : m ≤ 3) (hS : y_SO W.1 W.2.2) (hc : ∀ c, c ≤ 2 → S.2.2 c 0 0 = W.1 c 0 0) (hp : x_PM2 f g ρ x_dmA 518 S D' q h') : z_EM f g ρ S.1 (S.2.2, W.2) M m T D' a k S.2.1 e p q h' := by
  obtain ⟨F, rfl, rfl, hM, h96, h11, h2, hj, hk, hD⟩ := hp
  obtain ⟨e38, e506, e10, e2, e16, e17, p1, p2⟩ := hR.2.2.2.2
  have kk : ∀ c, c = 503 ∨ c = 504 ∨ c = 506 ∨ c < 500 → F c = f c := fun c hc => hk c (by omega) (by omega) (by omega) (by omega) (by omega) (by omega) (by omega)
  have jj : ∀ j, j = 10 ∨ j = 16 ∨ j = 17 ∨ j = 38 → F 500 j = f 500 j := fun j hc => hj j (by omega) (by omega) (by omega) (by omega)
  exact ⟨rfl, F, g, rfl, z_RM_k hR hV hB hm ⟨hM, y_NR_v hR.1.2.1 (hc 0 (by decide)) (hc 1 (by decide)) (hc 2 (by decide)), z_SN_fr hR.1.2.2 hS h11 (fun j j1 j2 => h96 j j1)⟩ (fun j j1 j2 => h96 j (by omega)) (fun j _ _ => rfl) (z_TM_fr hR.2.2.1 (kk 503 (by decide)) (kk 504 (by decide)) rfl) hD (jj 38 (by decide)) ⟨(kk 506 (by decide)).trans e506, (jj 10 (by decide)).trans e10, h2, (jj 16 (by decide)).trans e16, (jj 17 (by decide)).trans e17, p1, p2⟩, fun c hc => ⟨kk c (by omega), rfl⟩⟩
theorem z_k54 : ∀ u h, u ≤ 600 → z_Inv u h → ∀ (a0 : Int32), x_TwoI (z_Inv (u + 1)) 151 322 [.int a0] h := fun u h hu hI a0 => by
  obtain ⟨r, t, f, g, W, M, m, T, D, a, k, s, e, p, hr, ht, rfl, hC, hRM, hV⟩ := hI
  obtain ⟨⟨w, hw⟩, hkp⟩ := z_live (x := a0) hV.1.1 (z_B33 hu) hV.1.2
  have hmod : ∀ F G r' t', z_RM F G W M m T D a k s e p → ∃ PB, x_Ct 322 1299 (.ref 500 :: [.int a0]) (F, G, x_HR r' t', x_dmA, 518) PB ∧ ∀ q h', PB q h' → z_EM F G (x_HR r' t') (.int w) ((sp_live W.1 W.2.2 a0).2.2, W.2) M m T (y_told D W.1 W.2.2 a0) a k (sp_live W.1 W.2.2 a0).2.1 e p q h' := fun F G r' t' hR => ⟨_, m_live (d := 1290) hR.1.1 hV.1.1 (z_B33 hu) hR.1.2.2 hV.1.2 hR.2.2.2.1, fun q h' hp => by
    rw [← hw]
    exact z_PM2_E hR hV.2.1 (z_B60 hu) hV.2.2.1 hV.1.2 hkp.2 hp⟩
  have hV' := z_RV_v hV hkp
  rcases hr with rfl | rfl
  · rcases ht with rfl | rfl
    · exact z_two_I hRM (c_live_12_32 (d := 1293) hC.1.1 hV.1.1 (z_B33 hu) hC.1.2.2 hV.1.2 hC.2.2.2.1) (fun q h' hp => by rw [← hw]; exact z_PC2_E hC hV.2.2.1 (Or.inl rfl) (Or.inl rfl) hkp.2 hp) hmod hV'
    · exact z_two_I hRM (c_live_12_39 (d := 1293) hC.1.1 hV.1.1 (z_B33 hu) hC.1.2.2 hV.1.2 hC.2.2.2.1) (fun q h' hp => by rw [← hw]; exact z_PC2_E hC hV.2.2.1 (Or.inl rfl) (Or.inr rfl) hkp.2 hp) hmod hV'
  · rcases ht with rfl | rfl
    · exact z_two_I hRM (c_live_22_32 (d := 1293) hC.1.1 hV.1.1 (z_B33 hu) hC.1.2.2 hV.1.2 hC.2.2.2.1) (fun q h' hp => by rw [← hw]; exact z_PC2_E hC hV.2.2.1 (Or.inr rfl) (Or.inl rfl) hkp.2 hp) hmod hV'
    · exact z_two_I hRM (c_live_22_39 (d := 1293) hC.1.1 hV.1.1 (z_B33 hu) hC.1.2.2 hV.1.2 hC.2.2.2.1) (fun q h' hp => by rw [← hw]; exact z_PC2_E hC hV.2.2.1 (Or.inr rfl) (Or.inr rfl) hkp.2 hp) hmod hV'
theorem z_fr1 {g0 : Nat → Int64} {i j : Nat} {o : Option (Nat × Nat)} (h1 : g0 i = p.1) (h2 : g0 j = p.2) (hij : i ≠ j) : y_fr i j g0 o i = (z_fr p o).1 ∧ y_fr i j g0 o j = (z_fr p o).2 := by
  cases o with
  | none => exact ⟨h1, h2⟩
  | some w =>
    refine ⟨?_, ?_⟩
    · show va_up (va_up g0 i _) j _ i = _
      rw [x_un hij, x_us]
      rfl
    · show va_up (va_up g0 i _) j _ j = _
      rw [x_us]
      rfl
theorem z_QC_E {R : Int32 × Option (Nat × Nat)} {K : Nat} (hR : z_RC L t f g W M m T D a k s e p) (hm : m ≤ 3) (hL : (L = 12 ∧ K = 22) ∨ (L = 22 ∧ K = 12)) (ht : t = 32 ∨ t = 39) (hp : x_QC f g K (x_HR L t) x_dmA 518 R q h') : z_EC f g (.int (x_bo R.2.isSome)) W M m T D a k R.1 e (z_fr p R.2) q h' := by
  obtain ⟨F, G, rfl, rfl, h0, hj, hg, hk⟩ := hp
  obtain ⟨e14, e11, e5, e0, e6, e7, p1, p2⟩ := hR.2.2.2.2.1
  have hp12 := z_fr1 (o := R.2) p1 p2 (by decide)
  rw [← hg] at hp12
  exact ⟨rfl, L, t, F, G, by omega, ht, rfl, z_RC_k hR (z_Rc_fr hR.1 (fun c c1 c2 => (hk c (by omega) (by omega) (by omega) (by omega) (by omega)).1) (hk L (by omega) (by omega) (by omega) (by omega) (by omega)).2 (hk (L + 2) (by omega) (by omega) (by omega) (by omega) (by omega)).2 (fun c c1 c2 => (hk c (by omega) (by omega) (by omega) (by omega) (by omega)).1)) (fun c c1 c2 => hk c (by omega) (by omega) (by omega) (by omega) (by omega)) (z_TC_fr hR.2.2.1 (fun c c1 c2 => (hk c (by omega) (by omega) (by omega) (by omega) (by omega)).1) (fun c c1 c2 => (hk c (by omega) (by omega) (by omega) (by omega) (by omega)).2)) (z_DC_fr hR.2.2.2.1 (hj 19 (by decide)) (hk 102 (by decide) (by omega) (by decide) (by decide) (by decide)).1 (hk 102 (by decide) (by omega) (by decide) (by decide) (by decide)).2) (hj 14 (by decide)) ⟨(hk 11 (by decide) (by omega) (by decide) (by decide) (by decide)).1.trans e11, (hj 5 (by decide)).trans e5, h0, (hj 6 (by decide)).trans e6, (hj 7 (by decide)).trans e7, hp12.1, hp12.2⟩ hm, fun c c1 c2 => hk c (by omega) (by omega) (by omega) (by omega) (by omega)⟩
theorem z_QD_E {R : Int32 × Option (Nat × Nat)} (hR : z_RM f g W M m T D a k s e p) (hV : ∀ i, i < m → z_Rv B (M i)) (hW : z_Rv B W) (hB : B < 2 ^ 60) (hm : m ≤ 3) (hp : x_QD f g ρ x_dmA 518 R q h') : z_EM f g ρ (.int (x_bo R.2.isSome)) W M m T D a k R.1 e (z_fr p R.2) q h' := by
  obtain ⟨F, G, rfl, rfl, h2, hj, h5, hg, hgc, hk⟩ := hp
  obtain ⟨e38, e506, e10, e2, e16, e17, p1, p2⟩ := hR.2.2.2.2
  have hp12 := z_fr1 (o := R.2) p1 p2 (by decide)
  rw [← hg] at hp12
  have kk : ∀ c, c = 503 ∨ c = 504 ∨ c = 506 ∨ c = 517 ∨ c < 500 → F c = f c := fun c hc => hk c (by omega) (by omega) (by omega) (by omega) (by omega) (by omega)
  have jj : ∀ j, j = 10 ∨ j = 16 ∨ j = 17 ∨ j = 38 ∨ j = 37 → F 500 j = f 500 j := fun j hc => hj j (by omega) (by omega) (by omega)
  exact ⟨rfl, F, G, rfl, z_RM_k hR hV hB hm (z_Rm_fr hR.1 hW hB (fun j hj => h5 j (by omega)) (fun j _ => by rw [hgc 502 (by decide)])) (fun j j1 j2 => h5 j (by omega)) (fun j _ _ => by rw [hgc 502 (by decide)]) (z_TM_fr hR.2.2.1 (kk 503 (by decide)) (kk 504 (by decide)) (hgc 505 (by decide))) (z_DM_fr hR.2.2.2.1 (jj 37 (by decide)) (kk 517 (by decide))) (jj 38 (by decide)) ⟨(kk 506 (by decide)).trans e506, (jj 10 (by decide)).trans e10, h2, (jj 16 (by decide)).trans e16, (jj 17 (by decide)).trans e17, hp12.1, hp12.2⟩, fun c hc => ⟨kk c (by omega), hgc c (by omega)⟩⟩
theorem z_k56 : ∀ u h, u ≤ 600 → z_Inv u h → ∀ (a0 : Int32) (a1 : Int32), x_TwoI (z_Inv (u + 1)) 153 324 [.int a0, .int a1] h := fun u h hu hI a0 a1 => by
  obtain ⟨r, t, f, g, W, M, m, T, D, a, k, s, e, p, hr, ht, rfl, hC, hRM, hV⟩ := hI
  have hmod : ∀ F G r' t', z_RM F G W M m T D a k s e p → ∃ PB, x_Ct 324 1299 (.ref 500 :: [.int a0, .int a1]) (F, G, x_HR r' t', x_dmA, 518) PB ∧ ∀ q h', PB q h' → z_EM F G (x_HR r' t') (.int (x_bo (sp_mean W.1 W.2.2 a0 a1).2.isSome)) W M m T D a k (sp_mean W.1 W.2.2 a0 a1).1 e (z_fr p (sp_mean W.1 W.2.2 a0 a1).2) q h' := fun F G r' t' hR => ⟨_, m_mean (d := 1290) hR.1.1 hV.1.1 (z_B33 hu) hR.1.2.2 hV.1.2, fun q h' hp => z_QD_E hR hV.2.1 hV.1 (z_B60 hu) hV.2.2.1 hp⟩
  rcases hr with rfl | rfl
  · rcases ht with rfl | rfl
    · exact z_two_I hRM (c_mean_12_32 (d := 1293) hC.1.1 hV.1.1 (z_B33 hu) hC.1.2.2 hV.1.2) (fun q h' hp => z_QC_E hC hV.2.2.1 (Or.inl ⟨rfl, rfl⟩) (Or.inl rfl) hp) hmod (z_RV_m hV)
    · exact z_two_I hRM (c_mean_12_39 (d := 1293) hC.1.1 hV.1.1 (z_B33 hu) hC.1.2.2 hV.1.2) (fun q h' hp => z_QC_E hC hV.2.2.1 (Or.inl ⟨rfl, rfl⟩) (Or.inr rfl) hp) hmod (z_RV_m hV)
  · rcases ht with rfl | rfl
    · exact z_two_I hRM (c_mean_22_32 (d := 1293) hC.1.1 hV.1.1 (z_B33 hu) hC.1.2.2 hV.1.2) (fun q h' hp => z_QC_E hC hV.2.2.1 (Or.inr ⟨rfl, rfl⟩) (Or.inl rfl) hp) hmod (z_RV_m hV)
    · exact z_two_I hRM (c_mean_22_39 (d := 1293) hC.1.1 hV.1.1 (z_B33 hu) hC.1.2.2 hV.1.2) (fun q h' hp => z_QC_E hC hV.2.2.1 (Or.inr ⟨rfl, rfl⟩) (Or.inr rfl) hp) hmod (z_RV_m hV)
end Cc2
