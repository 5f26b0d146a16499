/-! the model reads a whole LAND -/
def y_er (e : Nat × Nat) : Prop := 1 ≤ e.1 ∧ e.1 ≤ 9
theorem y_fl_er (a : Nat → Int32) (m q : Nat) {k : Nat} (h1 : 1 ≤ k) (h2 : k ≤ 9) : y_er (y_fl a m q k) := by
  unfold y_er y_fl
  by_cases e : y_tk a m q = 4
  · rw [if_pos e]
    exact ⟨Nat.le_refl 1, show 1 ≤ 9 by decide⟩
  · rw [if_neg e]
    exact ⟨h1, h2⟩
theorem y_bd_er {α β : Type} {x : xF α} {k : α → xF β} (h1 : ∀ e, x = .inl e → y_er e) (h2 : ∀ w e, k w = .inl e → y_er e) : ∀ e, y_bd x k = .inl e → y_er e := by
  intro e h
  cases x with
  | inl e2 =>
    cases h
    exact h1 e rfl
  | inr w => exact h2 w e h
section C93a
variable {a : Nat → Int32} {m : Nat}
theorem y_sgn_er {c : Int32} {q : Nat} : ∀ e, y_sgn a m c q = .inl e → y_er e := by
  intro e h
  unfold y_sgn at h
  by_cases k : y_tk a m q = c
  · rw [if_pos k] at h
    cases h
  · rw [if_neg k] at h
    cases h
    exact y_fl_er a m q (by decide) (by decide)
theorem y_wrd_er {c : Int32} {q : Nat} : ∀ e, y_wrd a m c q = .inl e → y_er e := by
  intro e h
  unfold y_wrd at h
  by_cases k : y_wm a m q = c
  · rw [if_pos k] at h
    cases h
  · rw [if_neg k] at h
    cases h
    exact y_fl_er a m q (by decide) (by decide)
theorem y_nbr_er {lo hi q : Nat} : ∀ e, y_nbr a m lo hi q = .inl e → y_er e := by
  intro e h
  unfold y_nbr at h
  by_cases k : y_tk a m q = 2
  · rw [if_pos k] at h
    by_cases k2 : y_nv a m q < lo ∨ hi < y_nv a m q
    · rw [if_pos k2] at h
      cases h
      exact y_fl_er a m q (by decide) (by decide)
    · rw [if_neg k2] at h
      cases h
  · rw [if_neg k] at h
    cases h
    exact y_fl_er a m q (by decide) (by decide)
theorem y_old_er {N : Nat → Int64} {b many q : Nat} : ∀ e, y_old a m N b many q = .inl e → y_er e := by
  intro e h
  unfold y_old at h
  by_cases k : y_nm a m q = true
  · rw [if_pos k] at h
    cases e2 : y_fd N (y_lt a m q) b many 0 with
    | none =>
      rw [e2] at h
      cases h
      exact y_fl_er a m q (by decide) (by decide)
    | some k =>
      rw [e2] at h
      cases h
  · rw [if_neg k] at h
    cases h
    exact y_fl_er a m q (by decide) (by decide)
theorem y_new_er {N : Nat → Int64} {n0 n1 n2 pl q : Nat} : ∀ e, y_new a m N n0 n1 n2 pl q = .inl e → y_er e := by
  intro e h
  unfold y_new at h
  by_cases k : y_nm a m q = true
  · rw [if_pos k] at h
    by_cases k2 : y_tkn N (y_lt a m q) n0 n1 n2 = true
    · rw [if_pos k2] at h
      cases h
      exact y_fl_er a m q (by decide) (by decide)
    · rw [if_neg k2] at h
      cases h
  · rw [if_neg k] at h
    cases h
    exact y_fl_er a m q (by decide) (by decide)
theorem y_chc_er {w : Int32} {hi df q : Nat} : ∀ e, y_chc a m w hi df q = .inl e → y_er e := by
  intro e h
  unfold y_chc at h
  by_cases k : y_wm a m q = w
  · rw [if_pos k] at h
    exact y_nbr_er e h
  · rw [if_neg k] at h
    cases h
theorem y_part_er {S : xL} {q : Nat} : ∀ e, y_part a m S q = .inl e → y_er e := by
  intro e h
  have rul : ∀ i, y_rule a m i S q = .inl e → y_er e := by
    intro i h
    unfold y_rule at h
    by_cases c : S.2.2 i = true
    · rw [if_pos c] at h
      cases h
      exact y_fl_er a m q (by decide) (by decide)
    · rw [if_neg c] at h
      exact y_bd_er y_nbr_er (fun w => y_bd_er y_sgn_er (fun w e h => by cases h)) e h
  unfold y_part at h
  by_cases c0 : y_wm a m q = 0
  · rw [if_pos c0] at h
    exact rul 0 h
  rw [if_neg c0] at h
  by_cases c1 : y_wm a m q = 1
  · rw [if_pos c1] at h
    exact rul 1 h
  rw [if_neg c1] at h
  by_cases c2 : y_wm a m q = 2
  · rw [if_pos c2] at h
    exact rul 2 h
  rw [if_neg c2] at h
  by_cases c3 : y_wm a m q = 3
  · rw [if_pos c3] at h
    unfold y_kind at h
    by_cases c : S.1 0 0 0 = 4
    · rw [if_pos c] at h
      cases h
      exact y_fl_er a m q (by decide) (by decide)
    · rw [if_neg c] at h
      exact y_bd_er y_new_er (fun w => y_bd_er y_wrd_er (fun w => y_bd_er y_nbr_er (fun w => y_bd_er y_sgn_er (fun w e h => by cases h)))) e h
  rw [if_neg c3] at h
  by_cases c4 : y_wm a m q = 4
  · rw [if_pos c4] at h
    unfold y_good at h
    by_cases c : S.1 1 0 0 = 5
    · rw [if_pos c] at h
      cases h
      exact y_fl_er a m q (by decide) (by decide)
    · rw [if_neg c] at h
      exact y_bd_er y_new_er (fun w => y_bd_er y_wrd_er (fun w => y_bd_er y_nbr_er (fun w => y_bd_er y_chc_er (fun w => y_bd_er y_sgn_er (fun w e h => by cases h))))) e h
  rw [if_neg c4] at h
  by_cases c5 : y_wm a m q = 5
  · rw [if_pos c5] at h
    unfold y_pers at h
    by_cases c : S.1 2 0 0 = 5
    · rw [if_pos c] at h
      cases h
      exact y_fl_er a m q (by decide) (by decide)
    · rw [if_neg c] at h
      exact y_bd_er y_new_er (fun w => y_bd_er y_chc_er (fun w => y_bd_er y_sgn_er (fun w e h => by cases h))) e h
  rw [if_neg c5] at h
  by_cases c6 : y_wm a m q = 6
  · rw [if_pos c6] at h
    unfold y_has at h
    exact y_bd_er y_old_er (fun w => y_bd_er y_old_er (fun w => y_bd_er y_nbr_er (fun w => y_bd_er y_sgn_er (fun w e h => by cases h)))) e h
  rw [if_neg c6] at h
  cases h
  exact y_fl_er a m q (by decide) (by decide)
theorem y_parts_er : ∀ j (S : xL) q e, y_parts a m j S q = .inl e → y_er e
  | 0, _, _, _, h => by cases h
  | j + 1, S, q, e, h => by
    by_cases c : y_sa a m q = 3
    · rw [y_parts_3 c] at h
      cases h
    · rw [y_parts_S c] at h
      exact y_bd_er y_part_er (fun w e h => y_parts_er j w.1 w.2 e h) e h
end C93a
def x_fml (f : Nat → Nat → Int32) (g : Nat → Nat → Int64) (F : Nat → Nat → Int32) (G : Nat → Nat → Int64) : Prop := (∀ c, c ≠ 500 → c ≠ 501 → c ≠ 507 → F c = f c) ∧ (∀ j, j < 10 ∧ j ≠ 2 ∨ 20 < j → F 500 j = f 500 j) ∧ (∀ j, 464 ≤ j → j < 1856 ∨ 2320 ≤ j → F 501 j = f 501 j) ∧ (∀ c, c ≠ 502 → G c = g c) ∧ ∀ j, 14 ≤ j → j < 56 → G 502 j = g 502 j
def x_QMl (r t : Nat) (f : Nat → Nat → Int32) (g : Nat → Nat → Int64) (dm : List Nat) (n k : Nat) (x : Int32) (z : Option Value) (h' : xH) : Prop := match x_wi x 0 (nI k) with
  | false => z = some (.int (-1)) ∧ h' = (x_up f 500 2 1, g, x_HR r t, dm, n)
  | true => match y_land (f 506) (x_c x) with
    | .inl e => z = some (.int (-1)) ∧ ∃ F G, h' = (F, G, x_HR r t, dm, n) ∧ x_fml f g F G ∧ (F 500 2 = 9 ∧ F 500 10 = 0 ∧ F 500 16 = nI e.1 ∧ F 500 17 = nI e.2) ∧ (∀ j, j < 464 → F 501 j = f 501 j) ∧ ∀ j, j < 14 → G 502 j = g 502 j
    | .inr S => z = some (.int (nI (S.1 2 0 0))) ∧ ∃ F G, h' = (F, G, x_HR r t, dm, n) ∧ x_fml f g F G ∧ (F 500 2 = 0 ∧ F 500 10 = 0 ∧ F 500 16 = 0 ∧ F 500 17 = -1) ∧ v_M (F 501) 0 (y_lv0 S.1) ∧ F 501 11 = -1 ∧ y_NR (G 502) S.1 S.2.1
section C93
variable {f : Nat → Nat → Int32} {g : Nat → Nat → Int64} {r t : Nat} {dm : List Nat} {n d L : Nat} {v : xV} {a : Nat → Int32} {m q : Nat} {N : Nat → Int64} {S : xL} {ρ : Nat → Nat → Option Nat} {z : Option Value} {h' : xH} {e : Nat × Nat} {F : Nat → Nat → Int32} {G : Nat → Nat → Int64}
theorem m_taken {x : Int32} {k : Nat} (hk : f 500 18 = nI k) (hk9 : k ≤ 9) : x_V 209 (d + 1) [.ref 500, .int x] (f, g, x_HR r t, dm, n) (.int (if 0 < k then -1 else x)) (x_up (x_up f 500 16 (nI k)) 500 2 (if 0 < k then 9 else 0), g, x_HR r t, dm, n) := by
  by_cases h : 0 < k
  · rw [if_pos h, if_pos h, ← hk]
    refine x_Ct_w (by decide) (Nat.le_of_ble_eq_true rfl) ok209 [] 6 ?_
    refine And.intro (fun c => absurd (show f 500 18 ≤ 0 from c) (by rw [hk]; exact nI_nle h (by omega))) (fun _ => ?_)
    refine Exists.intro _ (And.intro (m_refuse (w := 9)) (And.intro (And.intro (Nat.zero_le _) (Nat.zero_le _)) (fun q h' hpo => ?_)))
    obtain ⟨rfl, rfl⟩ := hpo
    exact And.intro ⟨rfl, rfl⟩ ⟨trivial, Nat.le_refl _, Nat.le_refl _⟩
  · obtain rfl : k = 0 := by omega
    rw [if_neg h, if_neg h, ← hk]
    refine x_Ct_w (by decide) (Nat.le_of_ble_eq_true rfl) ok209 [] 6 ?_
    refine And.intro (fun _ => ?_) (fun c => absurd (show f 500 18 ≤ 0 by rw [hk]; decide) c)
    refine Exists.intro _ (And.intro m_gives (And.intro (And.intro (Nat.zero_le _) (Nat.zero_le _)) (fun q h' hpo => ?_)))
    obtain ⟨rfl, rfl⟩ := hpo
    exact And.intro ⟨rfl, rfl⟩ ⟨trivial, Nat.le_refl _, Nat.le_refl _⟩
theorem v_MA_plain {A B : Nat → Int32} (h : ∀ j, 1856 ≤ j → j < 2320 → B j = y_pln A 1856 j) : v_MA B 1856 y_v0 := by
  have e0 : y_v0 0 0 0 = 0 := rfl
  have e1 : y_v0 1 0 0 = 0 := rfl
  have e2 : y_v0 2 0 0 = 0 := rfl
  refine ⟨fun c i j hv => ?_, ?_, ?_⟩
  · have hl := v_am_lt (by rw [e0]; decide) (by rw [e1]; decide) (by rw [e2]; decide) hv
    have hc := v_all_le hv
    rw [h _ (by omega) (by omega)]
    have hv2 := hv
    unfold v_all at hv
    rw [e0, e1, e2] at hv
    have hcc : (c ≤ 8 ∧ i = 0 ∧ j = 0) ∨ 13 ≤ c := by
      repeat' split at hv
      all_goals omega
    rcases hcc with ⟨h8, rfl, rfl⟩ | h13
    · have tab : ∀ c, c ≤ 8 → y_pln A 1856 (1856 + v_pm c 0 0) = nI (y_v0 c 0 0) := by
        intro c hc
        have : c = 0 ∨ c = 1 ∨ c = 2 ∨ c = 3 ∨ c = 4 ∨ c = 5 ∨ c = 6 ∨ c = 7 ∨ c = 8 := by omega
        rcases this with rfl | rfl | rfl | rfl | rfl | rfl | rfl | rfl | rfl <;> rfl
      exact tab c h8
    · have ev : y_v0 c i j = 0 := by
        unfold y_v0
        rw [if_neg (by omega), if_neg (by omega), if_neg (by omega)]
      have hp : 26 ≤ v_pm c i j := by
        unfold v_pm
        repeat' split
        all_goals omega
      rw [ev]
      unfold y_pln
      rw [if_pos (by omega), if_neg (by omega), if_neg (by omega), if_neg (by omega), if_neg (by omega)]
      rfl
  · rw [h _ (by omega) (by omega)]
    rfl
  · rw [h _ (by omega) (by omega)]
    rfl
theorem m_land {k : Nat} {x : Int32} (hk : f 500 10 = nI k) (hk9 : k ≤ 900) (hb : ∀ j, j < k → y_byt (f 506 j)) : x_Ct 218 (d + 10) [.ref 500, .int x] (f, g, x_HR r t, dm, n) (x_QMl r t f g dm n k x) := by
  obtain ⟨Po, hPo⟩ : ∃ Po : Option Value → xH → Prop, Po = x_QMl r t f g dm n k x := ⟨_, rfl⟩
  rw [← hPo]
  have hmin : min k 900 = k := by omega
  refine x_Ct_w (by decide) (Nat.le_of_ble_eq_true rfl) ok218 [31] 6 ?_
  refine Exists.intro _ (And.intro (m_begins (mo := 900) hk hk9 (by decide) hb) (And.intro (And.intro (Nat.zero_le _) (Nat.zero_le _)) (fun zq h' hpo => ?_)))
  rw [hmin] at hpo
  cases hw : x_wi x 0 (nI k) with
  | false =>
    rw [hw] at hpo
    obtain ⟨rfl, rfl⟩ := hpo
    refine And.intro (fun c => absurd rfl c) (fun _ => ?_)
    refine Exists.intro _ (And.intro (m_refuse (w := 1)) (And.intro (And.intro (Nat.zero_le _) (Nat.zero_le _)) (fun q h' hpo => ?_)))
    obtain ⟨rfl, rfl⟩ := hpo
    refine And.intro ?_ ⟨trivial, Nat.le_refl _, Nat.le_refl _⟩
    rw [hPo]
    unfold x_QMl
    rw [hw]
    exact ⟨rfl, rfl⟩
  | true =>
    rw [hw] at hpo
    obtain ⟨rfl, F1, rfl, u1, u2, u3, u4, u5⟩ := hpo
    obtain ⟨j, -, hj, hxj⟩ := x_wi_t (lo := 0) (hi := k) hw (by omega) (Nat.zero_le _)
    have hc : x_c x = j := by rw [hxj]; exact nI_clamp (by omega)
    rw [hc] at u4 u5
    obtain ⟨a, ha⟩ : ∃ a, a = F1 507 := ⟨_, rfl⟩
    rw [← ha] at u4 u5
    have hT : y_TP a j := ⟨by omega, fun i hi => by rw [u4 i hi]; exact hb i (by omega)⟩
    have hX : y_land (f 506) (x_c x) = y_parts a j j y_S0 (y_skip a j 0) := by
      rw [hc]
      exact (g_land (fun i hi => u4 i hi)).symm
    obtain ⟨X0, hX0⟩ : ∃ X0, X0 = y_parts a j j y_S0 (y_skip a j 0) := ⟨_, rfl⟩
    have hq := (y_skip_sp a (Nat.zero_le j)).2
    refine And.intro (fun _ => ?_) (fun c => absurd (show (1 : Int32) = 0 from c) (by decide))
    refine Exists.intro _ (And.intro (m_plain (b := 1856) (by decide)) (And.intro (And.intro (Nat.zero_le _) (Nat.zero_le _)) (fun q h' hpo => ?_)))
    obtain ⟨rfl, rfl⟩ := hpo
    obtain ⟨F2, hF2⟩ : ∃ F2, F2 = x_up (va_up F1 501 (y_pln (F1 501) 1856)) 500 20 0 := ⟨_, rfl⟩
    show x_J 218 (d + 10) Po 31 [some (.ref 500), some (.int x), some (.int 1), none] [] (x_up (va_up F1 501 (y_pln (F1 501) 1856)) 500 20 0, g, x_HR r t, dm, n) 0 0
    rw [← hF2]
    have f2 : ∀ c, c ≠ 500 → c ≠ 501 → c ≠ 507 → F2 c = f c := fun c c1 c2 c3 => by rw [hF2, x_up_k c1, x_un c2]; exact u1 c c1 c3
    have e2 : F2 501 = y_pln (F1 501) 1856 := by rw [hF2, x_up_k (by decide), x_us]
    have e21 : ∀ i, i < 1856 ∨ 2320 ≤ i → F2 501 i = f 501 i := fun i hi => by rw [e2]; unfold y_pln; rw [if_neg (by omega), u1 501 (by decide) (by decide)]
    have f20 : ∀ i, i < 10 ∨ i = 16 ∨ 20 < i → F2 500 i = f 500 i := fun i hi => by rw [hF2, x_up_j (by omega), x_un (by decide)]; exact u2 i (by omega)
    have f210 : F2 500 10 = 0 := by rw [hF2]; exact u3
    have s2 : x_MS a j y_S0 (y_skip a j 0) F2 g := by
      refine ⟨⟨?_, ?_⟩, v_MA_plain (A := F1 501) (fun i h1 h2 => by rw [e2]), ⟨?_, fun i h1 h2 => ?_⟩, ⟨fun i hi => absurd hi (Nat.not_lt_zero _), fun i hi => absurd hi (Nat.not_lt_zero _), fun i hi => absurd hi (Nat.not_lt_zero _)⟩⟩
      · rw [hF2, x_up_k (by decide), x_un (by decide), ha]
      · rw [hF2]
        exact u5.2
      · rw [e2]
        rfl
      · rw [e2]
        unfold y_pln
        rw [if_pos (by omega), if_neg (by omega), if_neg (by omega), if_neg (by omega), if_neg (by omega)]
    have d2 : y_TD (F2 500 20) y_S0.2.2 := by
      refine ⟨0, by decide, by rw [hF2]; rfl, fun i hi => ?_⟩
      have tab : ∀ i, i < 3 → (nI 0 >>> (nI i &&& 31)) &&& 1 = x_bo false := by decide +kernel
      exact tab i hi
    have fr : ∀ F G, x_fMp F2 g F G → x_fml f g F G ∧ F 500 10 = 0 ∧ (∀ i, i < 464 → F 501 i = f 501 i) ∧ ∀ i, i < 14 → G 502 i = g 502 i := by
      intro F G h
      refine ⟨⟨fun c c1 c2 c3 => (h.1 c c1 c2).trans (f2 c c1 c2 c3), fun i hi => (h.2.1 i (by omega)).trans (f20 i (by omega)), fun i h1 h2 => (h.2.2.1 i h2).trans (e21 i h2), h.2.2.2.1, fun i h1 h2 => h.2.2.2.2 i (Or.inl h2)⟩, (h.2.1 10 (by decide)).trans f210, fun i hi => (h.2.2.1 i (by omega)).trans (e21 i (by omega)), fun i hi => h.2.2.2.2 i (by omega)⟩
    have bad : ∀ F G e, X0 = .inl e → x_fMp F2 g F G → x_FM F e → x_J 218 (d + 10) Po 50 [some (.ref 500), some (.int x), some (.int 0), none] [] (F, G, x_HR r t, dm, n) 0 0 := by
      intro F G e hX1 hf he
      obtain ⟨r1, r2, r3, r4⟩ := fr F G hf
      have her := y_parts_er j y_S0 (y_skip a j 0) e (hX0.symm.trans hX1)
      refine x_wp_ok ok218 [59, 90, 117] 6 ?_
      refine And.intro (fun _ => ?_) (fun c => absurd (show F 500 18 = 0 from c) (by rw [he.1]; exact nI_ne0 her.1 (by have := her.2; omega)))
      refine And.intro (by unfold x_ix; decide) ?_
      refine Exists.intro _ (And.intro (m_taken (k := e.1) he.1 her.2) (And.intro (And.intro (Nat.zero_le _) (Nat.zero_le _)) (fun q h' hpo => ?_)))
      obtain ⟨rfl, rfl⟩ := hpo
      rw [if_pos (show 0 < e.1 from her.1), if_pos (show 0 < e.1 from her.1)]
      refine And.intro ?_ ⟨trivial, Nat.le_refl _, Nat.le_refl _⟩
      rw [hPo]
      unfold x_QMl
      rw [hw, hX, ← hX0, hX1]
      refine ⟨rfl, _, G, rfl, ⟨fun c c1 c2 c3 => ?_, fun i hi => ?_, fun i h1 h2 => ?_, r1.2.2.2⟩, ⟨rfl, r2, rfl, he.2⟩, fun i hi => ?_, r4⟩
      · rw [x_up_k c1, x_up_k c1]
        exact r1.1 c c1 c2 c3
      · rw [x_up_j (by omega), x_up_j (by omega)]
        exact r1.2.1 i hi
      · rw [x_up_k (by decide), x_up_k (by decide)]
        exact r1.2.2.1 i h1 h2
      · rw [x_up_k (by decide), x_up_k (by decide)]
        exact r3 i hi
    have good : ∀ F G (S : xL) (q : Nat), X0 = .inr S → v_BA S.1 → x_MS a j S q F G → x_fMp F2 g F G → x_J 218 (d + 10) Po 50 [some (.ref 500), some (.int x), some (.int 1), none] [] (F, G, x_HR r t, dm, n) 0 0 := by
      intro F G S q hX1 hB hS hf
      obtain ⟨r1, r2, r3, r4⟩ := fr F G hf
      have tail : ∀ (A : Nat → Int32) (B : Nat → Int64), (∀ i, i < 464 → A i = F 501 (1856 + i)) → (∀ i, 464 ≤ i → A i = F 501 i) → (∀ i, i < 14 → B i = G 502 (56 + i)) → (∀ i, 14 ≤ i → B i = G 502 i) → ∀ x3, x_J 218 (d + 10) Po 117 [some (.ref 500), some (.int x), some (.int 1), some x3] [] (va_up F 501 A, va_up G 502 B, x_HR r t, dm, n) 0 0 := by
        intro A B hA1 hA2 hB1 hB2 x3
        have hM : v_M A 0 S.1 := by
          refine v_MA_M hB ⟨fun c i k hv => ?_, ?_, ?_⟩
          · have hl := v_am_lt (v_BA_K hB) (v_BA_G hB) (v_BA_P hB) hv
            rw [Nat.zero_add, hA1 _ (by omega)]
            exact hS.2.1.1 c i k hv
          · rw [hA1 9 (by decide)]
            exact hS.2.1.2.1
          · rw [hA1 10 (by decide)]
            exact hS.2.1.2.2
        have hB' := v_BA_B hB
        have ho := v_out_le hB'
        have h3 : A 3 = nI (S.1 3 0 0) := by
          have := hM.1 3 0 0 ⟨rfl, rfl⟩
          exact this
        have h2 : A 2 = nI (S.1 2 0 0) := by
          have := hM.1 2 0 0 ⟨rfl, rfl⟩
          exact this
        have hc3 : 10 ≤ S.1 3 0 0 ∧ S.1 3 0 0 ≤ 9999 := hB'.1 3 0 0 ⟨rfl, rfl⟩
        refine x_wp_ok ok218 [] 6 ?_
        refine Exists.intro _ (And.intro (m_outK (f := va_up F 501 A) (v := S.1) (by rw [x_us]; exact hM) (v_BA_K hB) (v_BA_P hB)) (And.intro (And.intro (Nat.zero_le _) (Nat.zero_le _)) (fun q h' hpo => ?_)))
        obtain ⟨rfl, rfl⟩ := hpo
        refine And.intro (by unfold x_ix; decide) ?_
        have e3 : va_up F 501 A 501 3 = nI (S.1 3 0 0) := by rw [x_us]; exact h3
        refine And.intro (show ¬ va_up F 501 A 501 3 = 0 by rw [e3]; exact nI_ne0 (by omega) (by omega)) ?_
        refine And.intro (by unfold x_ix; decide) ?_
        have el : Int32.ofInt 1 + nI (v_out S.1) / va_up F 501 A 501 3 = nI (1 + v_out S.1 / S.1 3 0 0) := by
          rw [e3, pk_div (by omega) (by omega) (by omega)]
          exact nI_add 1 _
        refine And.intro (by unfold x_ix; decide) ?_
        obtain ⟨F5, hF5⟩ : ∃ F5, F5 = x_up (va_up F 501 A) 501 7 (nI (1 + v_out S.1 / S.1 3 0 0)) := ⟨_, rfl⟩
        have e52 : F5 501 2 = nI (S.1 2 0 0) := by
          rw [hF5, x_up_j (by decide), x_us]
          exact h2
        have hF5' : F5 = x_up (va_up F 501 A) 501 7 (Int32.ofInt 1 + nI (v_out S.1) / va_up F 501 A 501 3) := by rw [hF5, el]
        show ∃ P, x_Ct 209 (d + 9) [.ref 500, .int (x_up (va_up F 501 A) 501 7 (Int32.ofInt 1 + nI (v_out S.1) / va_up F 501 A 501 3) 501 2)] (x_up (va_up F 501 A) 501 7 (Int32.ofInt 1 + nI (v_out S.1) / va_up F 501 A 501 3), va_up G 502 B, x_HR r t, dm, n) P ∧ _
        rw [← hF5', e52]
        refine Exists.intro _ (And.intro (m_taken (k := 0) (show F5 500 18 = nI 0 by rw [hF5, x_up_k (by decide), x_un (by decide)]; exact hS.1.2.2.1) (by decide)) (And.intro (And.intro (Nat.zero_le _) (Nat.zero_le _)) (fun q h' hpo => ?_)))
        obtain ⟨rfl, rfl⟩ := hpo
        rw [if_neg (Nat.lt_irrefl 0), if_neg (Nat.lt_irrefl 0)]
        refine And.intro ?_ ⟨trivial, Nat.le_refl _, Nat.le_refl _⟩
        rw [hPo]
        unfold x_QMl
        rw [hw, hX, ← hX0, hX1]
        have e501 : (x_up (x_up F5 500 16 (nI 0)) 500 2 0) 501 = va_up A 7 (nI (1 + v_out S.1 / S.1 3 0 0)) := by
          rw [x_up_k (by decide), x_up_k (by decide), hF5, x_up_c, x_us]
        refine ⟨rfl, _, _, rfl, ⟨fun c c1 c2 c3 => ?_, fun i hi => ?_, fun i h1 h2 => ?_, fun c hc => ?_, fun i h1 h2 => ?_⟩, ⟨rfl, ?_, rfl, ?_⟩, ?_, ?_, ?_⟩
        · rw [x_up_k c1, x_up_k c1, hF5, x_up_k c2, x_un c2]
          exact r1.1 c c1 c2 c3
        · rw [x_up_j (by omega), x_up_j (by omega), hF5, x_up_k (by decide), x_un (by decide)]
          exact r1.2.1 i hi
        · rw [e501, x_un (by omega), hA2 i h1]
          exact r1.2.2.1 i h1 h2
        · rw [x_un hc]
          exact r1.2.2.2.1 c hc
        · rw [x_us, hB2 i h1]
          exact r1.2.2.2.2 i h1 h2
        · rw [x_up_j (by decide), x_up_j (by decide), hF5, x_up_k (by decide), x_un (by decide)]
          exact r2
        · rw [x_up_j (by decide), x_up_j (by decide), hF5, x_up_k (by decide), x_un (by decide)]
          exact hS.1.2.2.2
        · rw [e501]
          exact v_M_set hM (v_BA_K hB) (v_BA_G hB) (v_BA_P hB) (c := 7) (i := 0) (j := 0) ⟨rfl, rfl⟩ (by decide)
        · rw [e501, x_un (by decide), hA1 11 (by decide)]
          exact hS.2.2.1.1
        · have bK := v_BA_K hB
          have bG := v_BA_G hB
          have bP := v_BA_P hB
          refine ⟨fun i hi => ?_, fun i hi => ?_, fun i hi => ?_⟩
          · rw [x_us, hB1 i (by omega)]
            exact hS.2.2.2.1 i hi
          · rw [x_us, hB1 (4 + i) (by omega)]
            exact hS.2.2.2.2.1 i hi
          · rw [x_us, hB1 (9 + i) (by omega)]
            exact hS.2.2.2.2.2 i hi
      have l2 : ∀ (A : Nat → Int32), (∀ i, i < 464 → A i = F 501 (1856 + i)) → (∀ i, 464 ≤ i → A i = F 501 i) → ∀ u c (B : Nat → Int64), c + u = 14 → (∀ i, i < c → B i = G 502 (56 + i)) → (∀ i, c ≤ i → B i = G 502 i) → x_J 218 (d + 10) Po 90 [some (.ref 500), some (.int x), some (.int 1), some (.int (nI c))] [] (va_up F 501 A, va_up G 502 B, x_HR r t, dm, n) 0 0 := by
        intro A hA1 hA2 u
        induction u with
        | zero =>
          intro c B hcu hB1 hB2
          obtain rfl : c = 14 := by omega
          refine x_wp_ok ok218 [90, 117] 6 ?_
          refine And.intro (fun _ => ?_) (fun c => absurd (by decide) c)
          exact tail A B hA1 hA2 hB1 hB2 _
        | succ u ih =>
          intro c B hcu hB1 hB2
          refine x_wp_ok ok218 [90, 117] 6 ?_
          refine And.intro (fun w => absurd (show nI 14 ≤ nI c from w) (nI_ge (by omega) (by decide))) (fun _ => ?_)
          have ix : (Int8.ofInt 56).toInt32 + nI c = nI (56 + c) := nI_add 56 c
          refine And.intro (by show x_ix ((Int8.ofInt 56).toInt32 + nI c) 84; rw [ix]; exact x_ix_nI (by omega) (by omega)) ?_
          refine And.intro (x_ix_nI (by omega) (by omega)) ?_
          have e0 := ih (c + 1) (va_up B c (B (56 + c))) (by omega) (fun i hi => by
            by_cases e : i = c
            · rw [e, x_us]
              exact hB2 _ (by omega)
            · rw [x_un e]
              exact hB1 i (by omega)) (fun i hi => by
            rw [x_un (by omega)]
            exact hB2 i (by omega))
          have ec : (nI c).toNatClampNeg = c := nI_clamp (by omega)
          have ec2 : ((Int8.ofInt 56).toInt32 + nI c).toNatClampNeg = 56 + c := by rw [ix]; exact nI_clamp (by omega)
          have eu : x_up (va_up G 502 B) 502 c (va_up G 502 B 502 (56 + c)) = va_up G 502 (va_up B c (B (56 + c))) := by
            unfold x_up
            rw [x_us, x_up2]
          rw [← nI_1o, ← eu] at e0
          show x_J 218 (d + 10) Po 90 _ _ (va_up F 501 A, x_up (va_up G 502 B) 502 (nI c).toNatClampNeg (va_up G 502 B 502 ((Int8.ofInt 56).toInt32 + nI c).toNatClampNeg), x_HR r t, dm, n) 0 0
          rw [ec, ec2]
          exact e0
      have l1 : ∀ u c (A : Nat → Int32), c + u = 464 → (∀ i, i < c → A i = F 501 (1856 + i)) → (∀ i, c ≤ i → A i = F 501 i) → x_J 218 (d + 10) Po 59 [some (.ref 500), some (.int x), some (.int 1), some (.int (nI c))] [] (va_up F 501 A, va_up G 502 (G 502), x_HR r t, dm, n) 0 0 := by
        intro u
        induction u with
        | zero =>
          intro c A hcu hA1 hA2
          obtain rfl : c = 464 := by omega
          refine x_wp_ok ok218 [59, 90, 117] 6 ?_
          refine And.intro (fun _ => ?_) (fun c => absurd (by decide) c)
          exact l2 A hA1 hA2 14 0 (G 502) rfl (fun i hi => absurd hi (Nat.not_lt_zero _)) (fun i _ => rfl)
        | succ u ih =>
          intro c A hcu hA1 hA2
          refine x_wp_ok ok218 [59, 90, 117] 6 ?_
          refine And.intro (fun w => absurd (show nI 464 ≤ nI c from w) (nI_ge (by omega) (by decide))) (fun _ => ?_)
          have ix : (Int16.ofInt 1856).toInt32 + nI c = nI (1856 + c) := nI_add 1856 c
          refine And.intro (by show x_ix ((Int16.ofInt 1856).toInt32 + nI c) 3168; rw [ix]; exact x_ix_nI (by omega) (by omega)) ?_
          refine And.intro (x_ix_nI (by omega) (by omega)) ?_
          have e0 := ih (c + 1) (va_up A c (A (1856 + c))) (by omega) (fun i hi => by
            by_cases e : i = c
            · rw [e, x_us]
              exact hA2 _ (by omega)
            · rw [x_un e]
              exact hA1 i (by omega)) (fun i hi => by
            rw [x_un (by omega)]
            exact hA2 i (by omega))
          have ec : (nI c).toNatClampNeg = c := nI_clamp (by omega)
          have ec2 : ((Int16.ofInt 1856).toInt32 + nI c).toNatClampNeg = 1856 + c := by rw [ix]; exact nI_clamp (by omega)
          have eu : x_up (va_up F 501 A) 501 c (va_up F 501 A 501 (1856 + c)) = va_up F 501 (va_up A c (A (1856 + c))) := by
            unfold x_up
            rw [x_us, x_up2]
          rw [← nI_1o, ← eu] at e0
          show x_J 218 (d + 10) Po 59 _ _ (x_up (va_up F 501 A) 501 (nI c).toNatClampNeg (va_up F 501 A 501 ((Int16.ofInt 1856).toInt32 + nI c).toNatClampNeg), va_up G 502 (G 502), x_HR r t, dm, n) 0 0
          rw [ec, ec2]
          exact e0
      refine x_wp_ok ok218 [59, 90, 117] 6 ?_
      refine And.intro (fun c => absurd (show F 500 18 = 0 from hS.1.2.2.1) c) (fun _ => ?_)
      have e0 := l1 464 0 (F 501) rfl (fun i hi => absurd hi (Nat.not_lt_zero _)) (fun i _ => rfl)
      have eF : va_up F 501 (F 501) = F := by
        funext c
        by_cases h : c = 501
        · rw [h, x_us]
        · rw [x_un h]
      have eG : va_up G 502 (G 502) = G := by
        funext c
        by_cases h : c = 502
        · rw [h, x_us]
        · rw [x_un h]
      rw [eF, eG] at e0
      exact e0
    have loop : ∀ u (S : xL) q F G, v_BA S.1 → x_MS a j S q F G → y_TD (F 500 20) S.2.2 → q ≤ j → j - q ≤ u → x_fMp F2 g F G → y_parts a j u S q = X0 → x_J 218 (d + 10) Po 31 [some (.ref 500), some (.int x), some (.int 1), none] [] (F, G, x_HR r t, dm, n) 0 0 := by
      intro u
      induction u with
      | zero =>
        intro S q F G hB hS hD hq hu hf hX1
        have h3 : y_sa a j q = 3 := if_neg (by omega)
        rw [y_parts_3 h3] at hX1
        refine x_wp_ok ok218 [31, 50] 6 ?_
        refine And.intro (fun c => absurd (show (1 : Int32) = 0 from c) (by decide)) (fun _ => ?_)
        refine And.intro (fun _ => good F G S q hX1.symm hB hS hf) (fun c => absurd (show F 500 12 = 0 by rw [hS.1.2.1.2.2.1, y_mk_0, y_tk_3]; exact h3) c)
      | succ u ih =>
        intro S q F G hB hS hD hq hu hf hX1
        by_cases h3 : y_sa a j q = 3
        · rw [y_parts_3 h3] at hX1
          refine x_wp_ok ok218 [31, 50] 6 ?_
          refine And.intro (fun c => absurd (show (1 : Int32) = 0 from c) (by decide)) (fun _ => ?_)
          refine And.intro (fun _ => good F G S q hX1.symm hB hS hf) (fun c => absurd (show F 500 12 = 0 by rw [hS.1.2.1.2.2.1, y_mk_0, y_tk_3]; exact h3) c)
        · rw [y_parts_S h3] at hX1
          refine x_wp_ok ok218 [31, 50] 6 ?_
          refine And.intro (fun c => absurd (show (1 : Int32) = 0 from c) (by decide)) (fun _ => ?_)
          refine And.intro (fun c => absurd (show F 500 12 = 0 from c) (by rw [hS.1.2.1.2.2.1, y_mk_0, y_tk_3]; exact h3)) (fun _ => ?_)
          refine Exists.intro _ (And.intro (m_landPart hT hB hS hD) (And.intro (And.intro (Nat.zero_le _) (Nat.zero_le _)) (fun zq h' hpo => ?_)))
          cases hY : y_part a j S q with
          | inl e =>
            rw [hY] at hpo hX1
            obtain ⟨rfl, F3, G3, rfl, w1, w2⟩ := hpo
            refine x_wp_ok ok218 [50] 6 ?_
            refine And.intro (fun _ => ?_) (fun c => absurd rfl c)
            exact bad F3 G3 e hX1.symm (x_fMp_t hf w1) w2
          | inr w =>
            have k1 := y_part_ok hB hY
            rw [hY] at hpo hX1
            obtain ⟨rfl, F3, G3, rfl, w1, w2, w3⟩ := hpo
            exact ih w.1 w.2 F3 G3 k1.1 w2 w3 k1.2.2 (by omega) (x_fMp_t hf w1) hX1
    exact loop j y_S0 (y_skip a j 0) F2 g y_v0_BA s2 d2 hq (Nat.sub_le _ _) x_fMp_r hX0.symm
end C93
