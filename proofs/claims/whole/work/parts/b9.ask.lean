/-! a call that asks of the land, or does a deed, on both sides -/
section Cb9
variable {f F : Nat → Nat → Int32} {g G : Nat → Nat → Int64} {r t r' t' L u B : Nat} {W W' : zW} {M M' : Nat → zW} {m m' : Nat} {T T' : xT} {D D' : Option (Nat → Nat)} {a a' : Nat → Int32} {k k' : Nat} {s s' : Int32} {e e' : Int32 × Int32} {p p' : Int64 × Int64} {ρ : Nat → Nat → Option Nat} {S : xS} {q : Option Value} {h h' : xH}
theorem z_mk {c : Nat} (h : c < 500) : x_mk c = false := by
  simp only [x_mk, Bool.or_eq_false_iff, beq_eq_false_iff_ne, Bool.and_eq_false_iff, decide_eq_false_iff_not]
  omega
theorem z_PC_E (hR : z_RC L t f g W M m T D a k s e p) (hm : m ≤ 3) (hL : L = 12 ∨ L = 22) (ht : t = 32 ∨ t = 39) (hc : ∀ c, c ≤ 2 → S.2.2 c 0 0 = W.1 c 0 0) (hp : x_PC f g L (x_HR L t) x_dmA 518 S q h') : z_EC f g S.1 (S.2.2, W.2) M m T D a k S.2.1 e p q h' := by
  obtain ⟨F, G, rfl, rfl, hC, h0, hj, hg0, hg2, hk⟩ := hp
  obtain ⟨e14, e11, e5, e0, e6, e7, p1, p2⟩ := hR.2.2.2.2.1
  refine ⟨rfl, L, t, F, G, hL, ht, rfl, z_RC_k hR ⟨hC, ?_, z_SO_fr hR.1.2.2 (fun c c1 c2 => (hk c (by omega) (by omega) (by omega)).1)⟩ (fun c c1 c2 => hk c (by omega) (by omega) (by omega)) (z_TC_fr hR.2.2.1 (fun c c1 c2 => (hk c (by omega) (by omega) (by omega)).1) (fun c c1 c2 => (hk c (by omega) (by omega) (by omega)).2)) (z_DC_fr hR.2.2.2.1 (hj 19 (by decide)) (hk 102 (by decide) (by omega) (by decide)).1 (hk 102 (by decide) (by omega) (by decide)).2) (hj 14 (by decide)) ⟨(hk 11 (by decide) (by omega) (by decide)).1.trans e11, (hj 5 (by decide)).trans e5, h0, (hj 6 (by decide)).trans e6, (hj 7 (by decide)).trans e7, by rw [hg0]; exact p1, by rw [hg0]; exact p2⟩ hm, fun c c1 c2 => hk c (by omega) (by omega) (by omega)⟩
  show y_NR (G (L + 2)) S.2.2 W.2.1
  rw [hg2]
  exact y_NR_v hR.1.2.1 (hc 0 (by decide)) (hc 1 (by decide)) (hc 2 (by decide))
theorem z_PM_E (hR : z_RM f g W M m T D a k s e p) (hV : ∀ i, i < m → z_Rv B (M i)) (hB : B < 2 ^ 60) (hm : m ≤ 3) (hS : y_SO W.1 W.2.2) (hc : ∀ c, c ≤ 2 → S.2.2 c 0 0 = W.1 c 0 0) (hp : x_PM f g ρ x_dmA 518 S q h') : z_EM f g ρ S.1 (S.2.2, W.2) M m T D a k S.2.1 e p q h' := by
  obtain ⟨F, G, rfl, rfl, hM, h96, h11, h2, hj, hk, hg⟩ := hp
  obtain ⟨e38, e506, e10, e2, e16, e17, p1, p2⟩ := hR.2.2.2.2
  refine ⟨rfl, F, G, rfl, z_RM_k hR hV hB hm ⟨hM, ?_, z_SN_fr hR.1.2.2 hS h11 (fun j j1 j2 => h96 j j1 (by omega))⟩ (fun j j1 j2 => h96 j (by omega) j2) (fun j _ _ => by rw [hg 502 (by decide)]) (z_TM_fr hR.2.2.1 (hk 503 (by decide)) (hk 504 (by decide)) (hg 505 (by decide))) (z_DM_fr hR.2.2.2.1 (hj 37 (by decide) (by decide) (by decide)) (hk 517 (by decide))) (hj 38 (by decide) (by decide) (by decide)) ⟨(hk 506 (by decide)).trans e506, (hj 10 (by decide) (by decide) (by decide)).trans e10, h2, (hj 16 (by decide) (by decide) (by decide)).trans e16, (hj 17 (by decide) (by decide) (by decide)).trans e17, by rw [hg 500 (by decide)]; exact p1, by rw [hg 500 (by decide)]; exact p2⟩, fun c hc => ⟨hk c (z_mk hc), hg c (by omega)⟩⟩
  show y_NR (G 502) S.2.2 W.2.1
  rw [hg 502 (by decide)]
  exact y_NR_v hR.1.2.1 (hc 0 (by decide)) (hc 1 (by decide)) (hc 2 (by decide))
theorem z_SO_v {v v' : xV} {S : xP} (h : y_SO v S) (hc : ∀ c, c ≤ 2 → v' c 0 0 = v c 0 0) : y_SO v' S := by
  cases S with
  | none => trivial
  | some q =>
    show y_SV q.1 q.2 (v' 2 0 0) (v' 0 0 0) (v' 1 0 0)
    rw [hc 2 (by decide), hc 0 (by decide), hc 1 (by decide)]
    exact h
theorem z_B60 (hu : u ≤ 600) : u * 2 ^ 34 < 2 ^ 60 := by omega
theorem z_B33 (hu : u ≤ 600) : u * 2 ^ 34 + 2 ^ 33 < 2 ^ 60 := by omega
theorem z_RV_v {v' : xV} (hV : z_RV (u * 2 ^ 34) W M m a k) (hk : z_kp (u * 2 ^ 34) W.1 v') : z_RV ((u + 1) * 2 ^ 34) (v', W.2) M m a k := by
  have h1 := z_RV_m hV
  refine ⟨⟨?_, z_SO_v hV.1.2 hk.2⟩, h1.2⟩
  have := hk.1
  rw [show (u + 1) * 2 ^ 34 = u * 2 ^ 34 + 2 ^ 34 by omega]
  exact this
theorem z_k {A Bn : Nat} {as : List Value} (sp : xV → xS) (hI : z_Inv u h) (hu : u ≤ 600)
    (h12 : ∀ f g t v N, v_C f g 12 v → v_Bn N v → N + 2 ^ 33 < 2 ^ 60 → v_B v → x_Ct A 1299 (.ref 0 :: as) (f, g, x_HR 12 t, x_dmA, 518) (x_PC f g 12 (x_HR 12 t) x_dmA 518 (sp v)))
    (h22 : ∀ f g t v N, v_C f g 22 v → v_Bn N v → N + 2 ^ 33 < 2 ^ 60 → v_B v → x_Ct A 1299 (.ref 0 :: as) (f, g, x_HR 22 t, x_dmA, 518) (x_PC f g 22 (x_HR 22 t) x_dmA 518 (sp v)))
    (hM : ∀ f g r t v N, v_M (f 501) 0 v → v_Bn N v → N + 2 ^ 33 < 2 ^ 60 → v_B v → x_Ct Bn 1299 (.ref 500 :: as) (f, g, x_HR r t, x_dmA, 518) (x_PM f g (x_HR r t) x_dmA 518 (sp v)))
    (hs : ∀ v N, v_Bn N v → N + 2 ^ 33 < 2 ^ 60 → z_ok N v (sp v)) : x_TwoI (z_Inv (u + 1)) A Bn as h := by
  obtain ⟨r, t, f, g, W, M, m, T, D, a, k, s, e, p, hr, ht, rfl, hC, hRM, hV⟩ := hI
  have hB := v_Bn_B hV.1.1 (z_B60 hu)
  obtain ⟨⟨w, hw⟩, hkp⟩ := hs W.1 _ hV.1.1 (z_B33 hu)
  have hmod : ∀ F G r' t', z_RM F G W M m T D a k s e p → ∃ PB, x_Ct Bn 1299 (.ref 500 :: as) (F, G, x_HR r' t', x_dmA, 518) PB ∧ ∀ q h', PB q h' → z_EM F G (x_HR r' t') (.int w) ((sp W.1).2.2, W.2) M m T D a k (sp W.1).2.1 e p q h' := fun F G r' t' hR => ⟨_, hM F G r' t' W.1 _ hR.1.1 hV.1.1 (z_B33 hu) hB, fun q h' hp => by
    rw [← hw]
    exact z_PM_E hR hV.2.1 (z_B60 hu) hV.2.2.1 hV.1.2 hkp.2 hp⟩
  have hV' := z_RV_v hV hkp
  rcases hr with rfl | rfl
  · exact z_two_I hRM (h12 f g t W.1 _ hC.1.1 hV.1.1 (z_B33 hu) hB) (fun q h' hp => by rw [← hw]; exact z_PC_E hC hV.2.2.1 (Or.inl rfl) ht hkp.2 hp) hmod hV'
  · exact z_two_I hRM (h22 f g t W.1 _ hC.1.1 hV.1.1 (z_B33 hu) hB) (fun q h' hp => by rw [← hw]; exact z_PC_E hC hV.2.2.1 (Or.inr rfl) ht hkp.2 hp) hmod hV'
theorem z_kL {A Bn : Nat} {as : List Value} (sp : xV → xS) (hI : z_Inv u h) (hu : u ≤ 600)
    (h12 : ∀ f g t v, v_C f g 12 v → v_B v → x_Ct A 1299 (.ref 0 :: as) (f, g, x_HR 12 t, x_dmA, 518) (x_PC f g 12 (x_HR 12 t) x_dmA 518 (sp v)))
    (h22 : ∀ f g t v, v_C f g 22 v → v_B v → x_Ct A 1299 (.ref 0 :: as) (f, g, x_HR 22 t, x_dmA, 518) (x_PC f g 22 (x_HR 22 t) x_dmA 518 (sp v)))
    (hM : ∀ f g r t v, v_M (f 501) 0 v → v_B v → x_Ct Bn 1299 (.ref 500 :: as) (f, g, x_HR r t, x_dmA, 518) (x_PM f g (x_HR r t) x_dmA 518 (sp v)))
    (hs : ∀ v, (∃ w : Int64, (sp v).1 = .long w) ∧ (sp v).2.2 = v) : x_TwoL (z_Inv (u + 1)) A Bn as h := by
  obtain ⟨r, t, f, g, W, M, m, T, D, a, k, s, e, p, hr, ht, rfl, hC, hRM, hV⟩ := hI
  have hB := v_Bn_B hV.1.1 (z_B60 hu)
  obtain ⟨⟨w, hw⟩, hv⟩ := hs W.1
  have hkp : z_kp (u * 2 ^ 34) W.1 (sp W.1).2.2 := by rw [hv]; exact z_kp_0 hV.1.1
  have hmod : ∀ F G r' t', z_RM F G W M m T D a k s e p → ∃ PB, x_Ct Bn 1299 (.ref 500 :: as) (F, G, x_HR r' t', x_dmA, 518) PB ∧ ∀ q h', PB q h' → z_EM F G (x_HR r' t') (.long w) ((sp W.1).2.2, W.2) M m T D a k (sp W.1).2.1 e p q h' := fun F G r' t' hR => ⟨_, hM F G r' t' W.1 hR.1.1 hB, fun q h' hp => by
    rw [← hw]
    exact z_PM_E hR hV.2.1 (z_B60 hu) hV.2.2.1 hV.1.2 hkp.2 hp⟩
  have hV' := z_RV_v hV hkp
  rcases hr with rfl | rfl
  · exact z_two_L hRM (h12 f g t W.1 hC.1.1 hB) (fun q h' hp => by rw [← hw]; exact z_PC_E hC hV.2.2.1 (Or.inl rfl) ht hkp.2 hp) hmod hV'
  · exact z_two_L hRM (h22 f g t W.1 hC.1.1 hB) (fun q h' hp => by rw [← hw]; exact z_PC_E hC hV.2.2.1 (Or.inr rfl) ht hkp.2 hp) hmod hV'
end Cb9
