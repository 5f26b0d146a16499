/-! a land that is being read: all its places are known, but worths, values, stocks, silver behind the counts -/
def v_all (v : xV) (c i j : Nat) : Prop := if c ≤ 8 then i = 0 ∧ j = 0 else if c = 9 then i < v 0 0 0 ∧ j = 0 else if c ≤ 11 then i < v 1 0 0 ∧ j = 0 else if c = 12 then i < v 2 0 0 ∧ j = 0 else if c ≤ 14 then i < 5 ∧ j < 4 else c = 15 ∧ i < 5 ∧ j < 5
def v_CA (f : Nat → Nat → Int32) (g : Nat → Nat → Int64) (L : Nat) (v : xV) : Prop := (∀ c i j, v_all v c i j → f (v_cell L c) (v_pl c i j) = nI (v c i j)) ∧ g L 6 = lN (v 16 0 0) ∧ g L 7 = lN (v 17 0 0)
def v_MA (a : Nat → Int32) (b : Nat) (v : xV) : Prop := (∀ c i j, v_all v c i j → a (b + v_pm c i j) = nI (v c i j)) ∧ a (b + 9) = 0 ∧ a (b + 10) = 0
def v_BA (v : xV) : Prop := (∀ c i j, v_all v c i j → v_lo c ≤ v c i j ∧ v c i j ≤ v_hi c) ∧ v 6 0 0 = 0 ∧ v 7 0 0 = 1 ∧ v 8 0 0 = 0 ∧ v 16 0 0 = 0 ∧ v 17 0 0 = 0
theorem v_BA_K {v : xV} (h : v_BA v) : v 0 0 0 ≤ 4 := (h.1 0 0 0 ⟨rfl, rfl⟩).2
theorem v_BA_G {v : xV} (h : v_BA v) : v 1 0 0 ≤ 5 := (h.1 1 0 0 ⟨rfl, rfl⟩).2
theorem v_BA_P {v : xV} (h : v_BA v) : v 2 0 0 ≤ 5 := (h.1 2 0 0 ⟨rfl, rfl⟩).2
theorem v_ok_all {v : xV} (hB : v_BA v) {c i j : Nat} (h : v_ok v c i j) : v_all v c i j := by
  have h1 := v_BA_K hB
  have h2 := v_BA_G hB
  have h3 := v_BA_P hB
  unfold v_ok at h
  unfold v_all
  repeat' split at h
  all_goals (repeat' split)
  all_goals omega
theorem v_CA_C {f : Nat → Nat → Int32} {g : Nat → Nat → Int64} {L : Nat} {v : xV} (hB : v_BA v) (h : v_CA f g L v) : v_C f g L v := ⟨fun c i j hv => h.1 c i j (v_ok_all hB hv), h.2⟩
theorem v_BA_B {v : xV} (hB : v_BA v) : v_B v := ⟨fun c i j hv => hB.1 c i j (v_ok_all hB hv), by rw [hB.2.2.2.1]; exact Nat.zero_le _, by rw [hB.2.2.2.2.1]; decide, by rw [hB.2.2.2.2.2]; decide⟩
theorem v_MA_M {a : Nat → Int32} {b : Nat} {v : xV} (hB : v_BA v) (h : v_MA a b v) : v_M a b v := ⟨fun c i j hv => h.1 c i j (v_ok_all hB hv), by rw [h.2.1, hB.2.2.2.2.1]; rfl, by rw [h.2.2, hB.2.2.2.2.2]; rfl⟩
theorem v_all_le {v : xV} {c i j : Nat} (h : v_all v c i j) : c ≤ 15 := by
  unfold v_all at h
  repeat' split at h
  all_goals omega
/-- places are apart -/
theorem v_al_inj {v : xV} (hK : v 0 0 0 ≤ 5) (hG : v 1 0 0 ≤ 6) {L c i j c' i' j' : Nat} (h : v_all v c i j) (h' : v_all v c' i' j') (hc : v_cell L c = v_cell L c') (hp : v_pl c i j = v_pl c' i' j') : c' = c ∧ i' = i ∧ j' = j := by
  have e1 := v_all_le h
  have e2 := v_all_le h'
  unfold v_all at h h'
  unfold v_cell at hc
  unfold v_pl at hp
  repeat' split at h
  all_goals (repeat' split at h')
  all_goals (repeat' split at hc)
  all_goals first | omega | ((repeat' split at hp) <;> omega)
theorem v_am_inj {v : xV} (hK : v 0 0 0 ≤ 4) (hG : v 1 0 0 ≤ 5) (hP : v 2 0 0 ≤ 5) {c i j c' i' j' : Nat} (h : v_all v c i j) (h' : v_all v c' i' j') (hp : v_pm c i j = v_pm c' i' j') : c' = c ∧ i' = i ∧ j' = j := by
  have e1 := v_all_le h
  have e2 := v_all_le h'
  unfold v_all at h h'
  unfold v_pm at hp
  repeat' split at h
  all_goals (repeat' split at h')
  all_goals first | omega | ((repeat' split at hp) <;> omega)
theorem v_am_lt {v : xV} (hK : v 0 0 0 ≤ 4) (hG : v 1 0 0 ≤ 5) (hP : v 2 0 0 ≤ 5) {c i j : Nat} (h : v_all v c i j) : v_pm c i j < 96 ∧ v_pm c i j ≠ 9 ∧ v_pm c i j ≠ 10 ∧ v_pm c i j ≠ 11 := by
  have e1 := v_all_le h
  unfold v_pm
  unfold v_all at h
  repeat' split at h
  all_goals (repeat' split)
  all_goals omega
theorem v_al_cell (L : Nat) {v : xV} {c i j : Nat} (h : v_all v c i j) : L ≤ v_cell L c ∧ v_cell L c ≤ L + 9 := by
  have e1 := v_all_le h
  unfold v_cell
  repeat' split
  all_goals omega
theorem v_al_set {v : xV} {c i j x : Nat} (hc : 3 ≤ c) {c' i' j' : Nat} : v_all (v_set v c i j x) c' i' j' ↔ v_all v c' i' j' := by
  unfold v_all
  rw [v_set_c (show (0 : Nat) ≠ c by omega), v_set_c (show (1 : Nat) ≠ c by omega), v_set_c (show (2 : Nat) ≠ c by omega)]
/-- the view's own place changes -/
theorem v_BA_set {v : xV} (h : v_BA v) {c i j x : Nat} (hc : 3 ≤ c) (h6 : c ≠ 6) (h7 : c ≠ 7) (h8 : c ≠ 8) (h16 : c ≠ 16) (h17 : c ≠ 17) (h1 : v_lo c ≤ x) (h2 : x ≤ v_hi c) : v_BA (v_set v c i j x) := by
  refine ⟨fun c' i' j' hv => ?_, ?_, ?_, ?_, ?_, ?_⟩
  · by_cases e : c' = c ∧ i' = i ∧ j' = j
    · obtain ⟨rfl, rfl, rfl⟩ := e
      rw [v_set_s]
      exact ⟨h1, h2⟩
    · rw [v_set_n e]
      exact h.1 c' i' j' ((v_al_set hc).mp hv)
  · rw [v_set_c (Ne.symm h6)]; exact h.2.1
  · rw [v_set_c (Ne.symm h7)]; exact h.2.2.1
  · rw [v_set_c (Ne.symm h8)]; exact h.2.2.2.1
  · rw [v_set_c (Ne.symm h16)]; exact h.2.2.2.2.1
  · rw [v_set_c (Ne.symm h17)]; exact h.2.2.2.2.2
/-- one more: the places of the new one are told before -/
theorem v_al_more {v : xV} {s c i j : Nat} (hs : s ≤ 2) (h : v_all (v_set v s 0 0 (v s 0 0 + 1)) c i j) : v_all v c i j ∨ (i = v s 0 0 ∧ j = 0 ∧ ((s = 0 ∧ c = 9) ∨ (s = 1 ∧ (c = 10 ∨ c = 11)) ∨ (s = 2 ∧ c = 12))) := by
  have hs3 : s = 0 ∨ s = 1 ∨ s = 2 := by omega
  rcases hs3 with rfl | rfl | rfl
  · have e0 : v_set v 0 0 0 (v 0 0 0 + 1) 0 0 0 = v 0 0 0 + 1 := v_set_s _ _ _ _ _
    have e1 : v_set v 0 0 0 (v 0 0 0 + 1) 1 0 0 = v 1 0 0 := v_set_c (by decide)
    have e2 : v_set v 0 0 0 (v 0 0 0 + 1) 2 0 0 = v 2 0 0 := v_set_c (by decide)
    unfold v_all at h ⊢
    rw [e0, e1, e2] at h
    repeat' split at h
    all_goals (repeat' split)
    all_goals omega
  · have e0 : v_set v 1 0 0 (v 1 0 0 + 1) 0 0 0 = v 0 0 0 := v_set_c (by decide)
    have e1 : v_set v 1 0 0 (v 1 0 0 + 1) 1 0 0 = v 1 0 0 + 1 := v_set_s _ _ _ _ _
    have e2 : v_set v 1 0 0 (v 1 0 0 + 1) 2 0 0 = v 2 0 0 := v_set_c (by decide)
    unfold v_all at h ⊢
    rw [e0, e1, e2] at h
    repeat' split at h
    all_goals (repeat' split)
    all_goals omega
  · have e0 : v_set v 2 0 0 (v 2 0 0 + 1) 0 0 0 = v 0 0 0 := v_set_c (by decide)
    have e1 : v_set v 2 0 0 (v 2 0 0 + 1) 1 0 0 = v 1 0 0 := v_set_c (by decide)
    have e2 : v_set v 2 0 0 (v 2 0 0 + 1) 2 0 0 = v 2 0 0 + 1 := v_set_s _ _ _ _ _
    unfold v_all at h ⊢
    rw [e0, e1, e2] at h
    repeat' split at h
    all_goals (repeat' split)
    all_goals omega
theorem v_BA_more {v : xV} (h : v_BA v) {s : Nat} (hs : s ≤ 2) (hb : v s 0 0 < v_hi s) (hn : ∀ c, ((s = 0 ∧ c = 9) ∨ (s = 1 ∧ (c = 10 ∨ c = 11)) ∨ (s = 2 ∧ c = 12)) → v_lo c ≤ v c (v s 0 0) 0 ∧ v c (v s 0 0) 0 ≤ v_hi c) : v_BA (v_set v s 0 0 (v s 0 0 + 1)) := by
  refine ⟨fun c i j hv => ?_, ?_, ?_, ?_, ?_, ?_⟩
  · by_cases e : c = s ∧ i = 0 ∧ j = 0
    · obtain ⟨rfl, rfl, rfl⟩ := e
      rw [v_set_s]
      have : v_lo c = 0 := by
        have hs3 : c = 0 ∨ c = 1 ∨ c = 2 := by omega
        rcases hs3 with rfl | rfl | rfl <;> rfl
      omega
    · rw [v_set_n e]
      rcases v_al_more hs hv with h1 | ⟨rfl, rfl, h1⟩
      · exact h.1 c i j h1
      · exact hn c h1
  · rw [v_set_c (by omega)]; exact h.2.1
  · rw [v_set_c (by omega)]; exact h.2.2.1
  · rw [v_set_c (by omega)]; exact h.2.2.2.1
  · rw [v_set_c (by omega)]; exact h.2.2.2.2.1
  · rw [v_set_c (by omega)]; exact h.2.2.2.2.2
/-- the parts keep the bounds, and the reading goes on -/
theorem y_part_ok {a : Nat → Int32} {m q : Nat} {S : xL} {z : xL × Nat} (hB : v_BA S.1) (h : y_part a m S q = .inr z) : v_BA z.1.1 ∧ q < z.2 ∧ z.2 ≤ m := by
  have hw : y_sa a m q ≠ 3 := by
    intro e
    have e1 : y_wm a m q = -1 := by
      unfold y_wm
      rw [if_neg (by rw [e]; decide)]
    unfold y_part at h
    rw [e1] at h
    repeat rw [if_neg (by decide)] at h
    cases h
  have hn := y_nxt_gt hw
  have bK := v_BA_K hB
  have bG := v_BA_G hB
  have bP := v_BA_P hB
  have rul : ∀ i, i ≤ 2 → y_rule a m i S q = .inr z → v_BA z.1.1 ∧ q < z.2 ∧ z.2 ≤ m := by
    intro i hi h
    unfold y_rule at h
    by_cases c : S.2.2 i = true
    · rw [if_pos c] at h
      cases h
    · rw [if_neg c] at h
      obtain ⟨x, hx, h⟩ := y_bd_inr h
      obtain ⟨q2, hq2, h⟩ := y_bd_inr h
      cases h
      have k1 := y_nbr_gt hx
      have k2 := y_sgn_gt (by decide) (by decide) hq2
      refine ⟨v_BA_set hB (by omega) (by omega) (by omega) (by omega) (by omega) (by omega) ?_ ?_, by omega, k2.2⟩
      · have : v_lo (3 + i) = y_rlo i := by
          have hi3 : i = 0 ∨ i = 1 ∨ i = 2 := by omega
          rcases hi3 with rfl | rfl | rfl <;> rfl
        omega
      · have : v_hi (3 + i) = y_rhi i := by
          have hi3 : i = 0 ∨ i = 1 ∨ i = 2 := by omega
          rcases hi3 with rfl | rfl | rfl <;> rfl
        omega
  unfold y_part at h
  by_cases c0 : y_wm a m q = 0
  · rw [if_pos c0] at h
    exact rul 0 (by decide) h
  rw [if_neg c0] at h
  by_cases c1 : y_wm a m q = 1
  · rw [if_pos c1] at h
    exact rul 1 (by decide) h
  rw [if_neg c1] at h
  by_cases c2 : y_wm a m q = 2
  · rw [if_pos c2] at h
    exact rul 2 (by decide) h
  rw [if_neg c2] at h
  by_cases c3 : y_wm a m q = 3
  · rw [if_pos c3] at h
    unfold y_kind at h
    by_cases c : S.1 0 0 0 = 4
    · rw [if_pos c] at h
      cases h
    · rw [if_neg c] at h
      obtain ⟨x1, hx1, h⟩ := y_bd_inr h
      obtain ⟨x2, hx2, h⟩ := y_bd_inr h
      obtain ⟨x3, hx3, h⟩ := y_bd_inr h
      obtain ⟨x4, hx4, h⟩ := y_bd_inr h
      cases h
      have k1 := y_new_gt hx1
      have k2 := y_wrd_gt (by decide) hx2
      have k3 := y_nbr_gt hx3
      have k4 := y_sgn_gt (by decide) (by decide) hx4
      refine ⟨?_, by omega, k4.2⟩
      have b1 : v_BA (v_set S.1 9 (S.1 0 0 0) 0 x3.1) := v_BA_set hB (by decide) (by decide) (by decide) (by decide) (by decide) (by decide) k3.2.1 k3.2.2
      have e1 : v_set S.1 9 (S.1 0 0 0) 0 x3.1 0 0 0 = S.1 0 0 0 := v_set_c (by decide)
      have b2 := v_BA_more b1 (s := 0) (by decide) (by rw [e1]; show S.1 0 0 0 < 4; omega) (fun c hc => by
        rcases hc with ⟨-, rfl⟩ | ⟨h1, -⟩ | ⟨h1, -⟩
        · rw [e1, v_set_s]
          exact k3.2
        · omega
        · omega)
      rw [e1] at b2
      exact b2
  rw [if_neg c3] at h
  by_cases c4 : y_wm a m q = 4
  · rw [if_pos c4] at h
    unfold y_good at h
    by_cases c : S.1 1 0 0 = 5
    · rw [if_pos c] at h
      cases h
    · rw [if_neg c] at h
      obtain ⟨x1, hx1, h⟩ := y_bd_inr h
      obtain ⟨x2, hx2, h⟩ := y_bd_inr h
      obtain ⟨x3, hx3, h⟩ := y_bd_inr h
      obtain ⟨x5, hx5, h⟩ := y_bd_inr h
      obtain ⟨x4, hx4, h⟩ := y_bd_inr h
      cases h
      have k1 := y_new_gt hx1
      have k2 := y_wrd_gt (by decide) hx2
      have k3 := y_nbr_gt hx3
      have k5 := y_chc_gt (by decide) (by decide) k3.1.2 hx5
      have k4 := y_sgn_gt (by decide) (by decide) hx4
      refine ⟨?_, by omega, k4.2⟩
      have b1 : v_BA (v_set (v_set S.1 10 (S.1 1 0 0) 0 x3.1) 11 (S.1 1 0 0) 0 x5.1) := v_BA_set (v_BA_set hB (by decide) (by decide) (by decide) (by decide) (by decide) (by decide) k3.2.1 k3.2.2) (by decide) (by decide) (by decide) (by decide) (by decide) (by decide) (Nat.zero_le _) (Nat.le_trans k5.2 (by decide))
      have e1 : v_set (v_set S.1 10 (S.1 1 0 0) 0 x3.1) 11 (S.1 1 0 0) 0 x5.1 1 0 0 = S.1 1 0 0 := (v_set_c (by decide)).trans (v_set_c (by decide))
      have b2 := v_BA_more b1 (s := 1) (by decide) (by rw [e1]; show S.1 1 0 0 < 5; omega) (fun c hc => by
        rcases hc with ⟨h1, -⟩ | ⟨-, rfl | rfl⟩ | ⟨h1, -⟩
        · omega
        · rw [e1, v_set_c (by decide), v_set_s]
          exact k3.2
        · rw [e1, v_set_s]
          exact ⟨Nat.zero_le _, Nat.le_trans k5.2 (by decide)⟩
        · omega)
      rw [e1] at b2
      exact b2
  rw [if_neg c4] at h
  by_cases c5 : y_wm a m q = 5
  · rw [if_pos c5] at h
    unfold y_pers at h
    by_cases c : S.1 2 0 0 = 5
    · rw [if_pos c] at h
      cases h
    · rw [if_neg c] at h
      obtain ⟨x1, hx1, h⟩ := y_bd_inr h
      obtain ⟨x5, hx5, h⟩ := y_bd_inr h
      obtain ⟨x4, hx4, h⟩ := y_bd_inr h
      cases h
      have k1 := y_new_gt hx1
      have k5 := y_chc_gt (by decide) (by decide) k1.1.2 hx5
      have k4 := y_sgn_gt (by decide) (by decide) hx4
      refine ⟨?_, by omega, k4.2⟩
      have b1 : v_BA (v_set S.1 12 (S.1 2 0 0) 0 x5.1) := v_BA_set hB (by decide) (by decide) (by decide) (by decide) (by decide) (by decide) (Nat.zero_le _) (Nat.le_trans k5.2 (by decide))
      have e1 : v_set S.1 12 (S.1 2 0 0) 0 x5.1 2 0 0 = S.1 2 0 0 := v_set_c (by decide)
      have b2 := v_BA_more b1 (s := 2) (by decide) (by rw [e1]; show S.1 2 0 0 < 5; omega) (fun c hc => by
        rcases hc with ⟨h1, -⟩ | ⟨h1, -⟩ | ⟨-, rfl⟩
        · omega
        · omega
        · rw [e1, v_set_s]
          exact ⟨Nat.zero_le _, Nat.le_trans k5.2 (by decide)⟩)
      rw [e1] at b2
      exact b2
  rw [if_neg c5] at h
  by_cases c6 : y_wm a m q = 6
  · rw [if_pos c6] at h
    unfold y_has at h
    obtain ⟨x1, hx1, h⟩ := y_bd_inr h
    obtain ⟨x2, hx2, h⟩ := y_bd_inr h
    obtain ⟨x3, hx3, h⟩ := y_bd_inr h
    obtain ⟨x4, hx4, h⟩ := y_bd_inr h
    cases h
    have k1 := y_old_gt hx1
    have k2 := y_old_gt hx2
    have k3 := y_nbr_gt hx3
    have k4 := y_sgn_gt (by decide) (by decide) hx4
    refine ⟨v_BA_set hB (by decide) (by decide) (by decide) (by decide) (by decide) (by decide) (Nat.zero_le _) (Nat.le_trans k3.2.2 (by decide)), by omega, k4.2⟩
  rw [if_neg c6] at h
  cases h
