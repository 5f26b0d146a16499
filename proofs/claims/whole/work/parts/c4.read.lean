/-! land() and reigns() on both sides -/
section Cc4
variable {f F : Nat → Nat → Int32} {g G : Nat → Nat → Int64} {r t r' t' L u B : Nat} {W W' : zW} {M M' : Nat → zW} {m m' : Nat} {T T' : xT} {D D' : Option (Nat → Nat)} {a a' : Nat → Int32} {k k' : Nat} {s s' : Int32} {e e' : Int32 × Int32} {p p' : Int64 × Int64} {ρ : Nat → Nat → Option Nat} {q : Option Value} {h h' : xH}
theorem z_HB_big {j : Nat} (h : 40 ≤ j) : x_HB j = none := by
  unfold x_HB
  split <;> first | rfl | omega
theorem z_HM_big {j : Nat} (h : 40 ≤ j) : x_HM j = none := by
  unfold x_HM
  split <;> first | rfl | omega
theorem z_HR_big {c j : Nat} (h : 40 ≤ j) : x_HR r t c j = none := by
  cases c with
  | zero =>
    show x_H0 r t j = none
    unfold x_H0
    rw [if_neg (by omega), if_neg (by omega), if_neg (by omega), if_neg (by omega)]
    exact z_HB_big h
  | succ c =>
    show x_HO r t (c + 1) j = none
    unfold x_HO
    split
    case h_11 => exact z_HM_big h
    all_goals (repeat' split)
    all_goals first | rfl | omega
def z_hrb (r t : Nat) : Bool := x_dmA.all (fun k => (List.range 40).all (fun j => match x_HR r t k j with
  | none => true
  | some q => x_dmA.elem q || Nat.ble 1000 q))
theorem z_hrb_ok : z_hrb 12 32 = true ∧ z_hrb 12 39 = true ∧ z_hrb 22 32 = true ∧ z_hrb 22 39 = true := by decide +kernel
theorem z_hr1 (hb : z_hrb r t = true) : ∀ c ∈ x_dmA, ∀ j q, x_HR r t c j = some q → x_in1 x_dmA q := by
  intro c hc j q hq
  by_cases hj : j < 40
  · have h1 := List.all_eq_true.mp (List.all_eq_true.mp hb c hc) j (List.mem_range.mpr hj)
    rw [hq] at h1
    have h1 : (x_dmA.elem q || Nat.ble 1000 q) = true := h1
    rcases Bool.or_eq_true _ _ |>.mp h1 with h2 | h2
    · exact Or.inl (List.mem_of_elem_eq_true h2)
    · exact Or.inr (Nat.le_of_ble_eq_true h2)
  · rw [z_HR_big (by omega)] at hq
    cases hq
theorem z_hr (hr : r = 12 ∨ r = 22) (ht : t = 32 ∨ t = 39) : ∀ c ∈ x_dmA, ∀ j q, x_HR r t c j = some q → x_in1 x_dmA q := by
  obtain ⟨h1, h2, h3, h4⟩ := z_hrb_ok
  rcases hr with rfl | rfl
  · rcases ht with rfl | rfl
    · exact z_hr1 h1
    · exact z_hr1 h2
  · rcases ht with rfl | rfl
    · exact z_hr1 h3
    · exact z_hr1 h4
theorem z_600 : 600 ∉ x_dmA := by decide +kernel
theorem z_601 : 601 ∉ x_dmA := by decide +kernel
theorem z_610 : 610 ∉ x_dmA := by decide +kernel
theorem z_611 : 611 ∉ x_dmA := by decide +kernel
theorem z_ru16 {A : Nat → Int32} {n i b c : Nat} {S : xL} {z : xL × Nat} (h : y_rule A n i S b = .inr z) (hi : i ≤ 2) (hc : 16 ≤ c) : z.1.1 c 0 0 = S.1 c 0 0 := by
  unfold y_rule at h
  split at h
  · cases h
  · obtain ⟨w, -, h⟩ := y_bd_inr h
    obtain ⟨w2, -, h⟩ := y_bd_inr h
    cases h
    exact v_set_c (by omega)
theorem z_part16 {A : Nat → Int32} {n b c : Nat} {S : xL} {z : xL × Nat} (h : y_part A n S b = .inr z) (hc : 16 ≤ c) : z.1.1 c 0 0 = S.1 c 0 0 := by
  unfold y_part at h
  split at h
  · exact z_ru16 h (by decide) hc
  split at h
  · exact z_ru16 h (by decide) hc
  split at h
  · exact z_ru16 h (by decide) hc
  split at h
  · unfold y_kind at h
    split at h
    · cases h
    · obtain ⟨w, -, h⟩ := y_bd_inr h
      obtain ⟨w2, -, h⟩ := y_bd_inr h
      obtain ⟨w3, -, h⟩ := y_bd_inr h
      obtain ⟨w4, -, h⟩ := y_bd_inr h
      cases h
      show v_set _ 0 0 0 _ c 0 0 = _
      rw [v_set_c (by omega), v_set_c (by omega)]
  split at h
  · unfold y_good at h
    split at h
    · cases h
    · obtain ⟨w, -, h⟩ := y_bd_inr h
      obtain ⟨w2, -, h⟩ := y_bd_inr h
      obtain ⟨w3, -, h⟩ := y_bd_inr h
      obtain ⟨w4, -, h⟩ := y_bd_inr h
      obtain ⟨w5, -, h⟩ := y_bd_inr h
      cases h
      show v_set _ 1 0 0 _ c 0 0 = _
      rw [v_set_c (by omega), v_set_c (by omega), v_set_c (by omega)]
  split at h
  · unfold y_pers at h
    split at h
    · cases h
    · obtain ⟨w, -, h⟩ := y_bd_inr h
      obtain ⟨w2, -, h⟩ := y_bd_inr h
      obtain ⟨w3, -, h⟩ := y_bd_inr h
      cases h
      show v_set _ 2 0 0 _ c 0 0 = _
      rw [v_set_c (by omega), v_set_c (by omega)]
  split at h
  · unfold y_has at h
    obtain ⟨w, -, h⟩ := y_bd_inr h
    obtain ⟨w2, -, h⟩ := y_bd_inr h
    obtain ⟨w3, -, h⟩ := y_bd_inr h
    obtain ⟨w4, -, h⟩ := y_bd_inr h
    cases h
    exact v_set_c (by omega)
  · cases h
theorem z_parts16 {A : Nat → Int32} {n c : Nat} (hc : 16 ≤ c) : ∀ j (S : xL) b S', y_parts A n j S b = .inr S' → S'.1 c 0 0 = S.1 c 0 0
  | 0, S, b, S', h => by cases h; rfl
  | j + 1, S, b, S', h => by
    by_cases h3 : y_sa A n b = 3
    · rw [y_parts_3 h3] at h
      cases h
      rfl
    · rw [y_parts_S h3] at h
      obtain ⟨w, hw, h⟩ := y_bd_inr h
      rw [z_parts16 hc j w.1 w.2 S' h, z_part16 hw hc]
theorem z_land16 {n : Nat} {S : xL} (h : y_land a n = .inr S) : S.1 16 0 0 = 0 ∧ S.1 17 0 0 = 0 := by
  have h1 := z_parts16 (c := 16) (by decide) _ _ _ _ h
  have h2 := z_parts16 (c := 17) (by decide) _ _ _ _ h
  exact ⟨h1, h2⟩
theorem z_lv0_c {v : xV} {c i j : Nat} (h : c ≠ 7) : y_lv0 v c i j = v c i j := v_set_c h
theorem z_landBn {n : Nat} {S : xL} (h : y_land a n = .inr S) (hB : v_B (y_lv0 S.1)) (N : Nat) : v_Bn N (y_lv0 S.1) := by
  obtain ⟨h1, h2⟩ := z_land16 h
  refine ⟨hB.1, hB.2.1, ?_, ?_⟩
  · rw [z_lv0_c (by decide), h1]; exact Nat.zero_le _
  · rw [z_lv0_c (by decide), h2]; exact Nat.zero_le _
theorem z_land_C1 {x : Int32} {e1 : Nat × Nat} (hR : z_RC r t f g W M m T D a k s e p) (hm : m ≤ 3) (hL : (r = 12 ∧ L = 22) ∨ (r = 22 ∧ L = 12)) (ht : t = 32 ∨ t = 39) (hx : x_wi x 0 (nI k) = true) (hl : y_land a (x_c x) = .inl e1) (hp : x_QCl r t L f g x_dmA 518 k x q h') : z_EC f g (.int (-1)) W M m T D a 0 9 (nI e1.1, nI e1.2) p q h' := by
  obtain ⟨e14, e11, e5, e0, e6, e7, p1, p2⟩ := hR.2.2.2.2.1
  unfold x_QCl at hp
  rw [hx, e11, hl] at hp
  obtain ⟨rfl, F, G, rfl, ⟨j1, j2, j3⟩, ⟨s0, s5, s6, s7⟩, hFt⟩ := hp
  have hF : ∀ c, c ≠ 0 → c ≠ 10 → c < 600 → ¬ (L ≤ c ∧ c ≤ L + 9) → F c = f c := fun c c1 c2 c3 c4 => by
    by_cases h : c = t
    · subst h; exact hFt
    · exact j2 c c1 c2 h c3 c4
  exact ⟨rfl, r, t, F, G, by omega, ht, rfl, z_RC_k hR (z_Rc_fr hR.1 (fun c c1 c2 => hF c (by omega) (by omega) (by omega) (by omega)) (j3 _ (by omega) (by omega) (by omega)) (j3 _ (by omega) (by omega) (by omega)) (fun c c1 c2 => hF c (by omega) (by omega) (by omega) (by omega))) (fun c c1 c2 => ⟨hF c (by omega) (by omega) (by omega) (by omega), j3 c (by omega) (by omega) (by omega)⟩) (z_TC_fr hR.2.2.1 (fun c c1 c2 => hF c (by omega) (by omega) (by omega) (by omega)) (fun c c1 c2 => j3 c (by omega) (by omega) (by omega))) (z_DC_fr hR.2.2.2.1 (j1 19 (by decide) (by decide) (by decide) (by decide)) (hF 102 (by decide) (by decide) (by decide) (by omega)) (j3 102 (by decide) (by decide) (by omega))) (j1 14 (by decide) (by decide) (by decide) (by decide)) ⟨(hF 11 (by decide) (by decide) (by decide) (by omega)).trans e11, s5, s0, s6, s7, by rw [j3 0 (by decide) (by decide) (by omega)]; exact p1, by rw [j3 0 (by decide) (by decide) (by omega)]; exact p2⟩ hm, fun c c1 c2 => ⟨hF c (by omega) (by omega) (by omega) (by omega), j3 c (by omega) (by omega) (by omega)⟩⟩
theorem z_land_C2 {x : Int32} {S : xL} (hR : z_RC r t f g W M m T D a k s e p) (hm : m ≤ 3) (hL : (r = 12 ∧ L = 22) ∨ (r = 22 ∧ L = 12)) (ht : t = 32 ∨ t = 39) (hx : x_wi x 0 (nI k) = true) (hl : y_land a (x_c x) = .inr S) (hp : x_QCl r t L f g x_dmA 518 k x q h') : z_EC f g (.int (nI (S.1 2 0 0))) (y_lv0 S.1, S.2.1, none) M m T D a 0 0 (0, -1) p q h' ∧ v_B (y_lv0 S.1) := by
  obtain ⟨e14, e11, e5, e0, e6, e7, p1, p2⟩ := hR.2.2.2.2.1
  unfold x_QCl at hp
  rw [hx, e11, hl] at hp
  obtain ⟨rfl, F, G, rfl, ⟨j1, j2, j3⟩, ⟨s0, s5, s6, s7⟩, hC, hB, hN, hFt⟩ := hp
  have hF : ∀ c, c ≠ 0 → c ≠ 10 → c ≠ t → c < 600 → ¬ (L ≤ c ∧ c ≤ L + 9) → F c = f c := j2
  have hNR : y_NR (G (L + 2)) (y_lv0 S.1) S.2.1 := y_NR_v hN (z_lv0_c (by decide)) (z_lv0_c (by decide)) (z_lv0_c (by decide))
  exact ⟨⟨rfl, L, t, F, G, by omega, ht, rfl, z_RC_k hR ⟨hC, hNR, hFt⟩ (fun c c1 c2 => ⟨hF c (by omega) (by omega) (by omega) (by omega) (by omega), j3 c (by omega) (by omega) (by omega)⟩) (z_TC_fr hR.2.2.1 (fun c c1 c2 => hF c (by omega) (by omega) (by omega) (by omega) (by omega)) (fun c c1 c2 => j3 c (by omega) (by omega) (by omega))) (z_DC_fr hR.2.2.2.1 (j1 19 (by decide) (by decide) (by decide) (by decide)) (hF 102 (by decide) (by decide) (by omega) (by decide) (by omega)) (j3 102 (by decide) (by decide) (by omega))) (j1 14 (by decide) (by decide) (by decide) (by decide)) ⟨(hF 11 (by decide) (by decide) (by omega) (by decide) (by omega)).trans e11, s5, s0, s6, s7, by rw [j3 0 (by decide) (by decide) (by omega)]; exact p1, by rw [j3 0 (by decide) (by decide) (by omega)]; exact p2⟩ hm, fun c c1 c2 => ⟨hF c (by omega) (by omega) (by omega) (by omega) (by omega), j3 c (by omega) (by omega) (by omega)⟩⟩, hB⟩
theorem z_land_M1 {x : Int32} {e1 : Nat × Nat} (hR : z_RM f g W M m T D a k s e p) (hV : z_RV B W M m a k) (hB : B < 2 ^ 60) (hx : x_wi x 0 (nI k) = true) (hl : y_land a (x_c x) = .inl e1) (hp : x_QMl r t f g x_dmA 518 k x q h') : z_EM f g (x_HR r t) (.int (-1)) W M m T D a 0 9 (nI e1.1, nI e1.2) p q h' := by
  obtain ⟨e38, e506, e10, e2, e16, e17, p1, p2⟩ := hR.2.2.2.2
  unfold x_QMl at hp
  rw [hx, e506, hl] at hp
  obtain ⟨rfl, F, G, rfl, ⟨j1, j2, j3, j4, j5⟩, ⟨s2, s10, s16, s17⟩, h5, g5⟩ := hp
  exact ⟨rfl, F, G, rfl, z_RM_k hR hV.2.1 hB hV.2.2.1 (z_Rm_fr hR.1 hV.1 hB (fun j hj => h5 j (by omega)) (fun j hj => g5 j hj)) (fun j h1 h2 => j3 j h1 (by omega)) j5 (z_TM_fr hR.2.2.1 (j1 503 (by decide) (by decide) (by decide)) (j1 504 (by decide) (by decide) (by decide)) (j4 505 (by decide))) (z_DM_fr hR.2.2.2.1 (j2 37 (by decide)) (j1 517 (by decide) (by decide) (by decide))) (j2 38 (by decide)) ⟨(j1 506 (by decide) (by decide) (by decide)).trans e506, s10, s2, s16, s17, by rw [j4 500 (by decide)]; exact p1, by rw [j4 500 (by decide)]; exact p2⟩, fun c hc => ⟨j1 c (by omega) (by omega) (by omega), j4 c (by omega)⟩⟩
theorem z_land_M2 {x : Int32} {S : xL} (hR : z_RM f g W M m T D a k s e p) (hV : z_RV B W M m a k) (hB : B < 2 ^ 60) (hx : x_wi x 0 (nI k) = true) (hl : y_land a (x_c x) = .inr S) (hp : x_QMl r t f g x_dmA 518 k x q h') : z_EM f g (x_HR r t) (.int (nI (S.1 2 0 0))) (y_lv0 S.1, S.2.1, none) M m T D a 0 0 (0, -1) p q h' := by
  obtain ⟨e38, e506, e10, e2, e16, e17, p1, p2⟩ := hR.2.2.2.2
  unfold x_QMl at hp
  rw [hx, e506, hl] at hp
  obtain ⟨rfl, F, G, rfl, ⟨j1, j2, j3, j4, j5⟩, ⟨s2, s10, s16, s17⟩, hM, h11, hN⟩ := hp
  have hNR : y_NR (G 502) (y_lv0 S.1) S.2.1 := y_NR_v hN (z_lv0_c (by decide)) (z_lv0_c (by decide)) (z_lv0_c (by decide))
  exact ⟨rfl, F, G, rfl, z_RM_k hR hV.2.1 hB hV.2.2.1 ⟨hM, hNR, h11⟩ (fun j h1 h2 => j3 j h1 (by omega)) j5 (z_TM_fr hR.2.2.1 (j1 503 (by decide) (by decide) (by decide)) (j1 504 (by decide) (by decide) (by decide)) (j4 505 (by decide))) (z_DM_fr hR.2.2.2.1 (j2 37 (by decide)) (j1 517 (by decide) (by decide) (by decide))) (j2 38 (by decide)) ⟨(j1 506 (by decide) (by decide) (by decide)).trans e506, s10, s2, s16, s17, by rw [j4 500 (by decide)]; exact p1, by rw [j4 500 (by decide)]; exact p2⟩, fun c hc => ⟨j1 c (by omega) (by omega) (by omega), j4 c (by omega)⟩⟩
end Cc4
