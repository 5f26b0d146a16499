/-! the model reads the parts of a LAND -/
def y_sg (a : Nat → Int32) (m : Nat) (z : xL × Nat) : xF (xL × Nat) := y_bd (y_sgn a m 59 z.2) (fun q3 => .inr (z.1, q3))
def y_kind1 (a : Nat → Int32) (m : Nat) (S : xL) (q : Nat) : xF (xL × Nat) := if S.1 0 0 0 = 4 then .inl (y_fl a m q 6) else y_bd (y_new a m S.2.1 (S.1 0 0 0) (S.1 1 0 0) (S.1 2 0 0) (S.1 0 0 0) (y_nxt a m q)) (fun z => y_bd (y_wrd a m 7 z.2) (fun q2 => y_bd (y_nbr a m 1 500 q2) (fun x => .inr ((v_set (v_set S.1 9 (S.1 0 0 0) 0 x.1) 0 0 0 (S.1 0 0 0 + 1), z.1, S.2.2), x.2))))
def y_good1 (a : Nat → Int32) (m : Nat) (S : xL) (q : Nat) : xF (xL × Nat) := if S.1 1 0 0 = 5 then .inl (y_fl a m q 6) else y_bd (y_new a m S.2.1 (S.1 0 0 0) (S.1 1 0 0) (S.1 2 0 0) (4 + S.1 1 0 0) (y_nxt a m q)) (fun z => y_bd (y_wrd a m 8 z.2) (fun q2 => y_bd (y_nbr a m 1 99 q2) (fun x => y_bd (y_chc a m 9 999 10 x.2) (fun y => .inr ((v_set (v_set (v_set S.1 10 (S.1 1 0 0) 0 x.1) 11 (S.1 1 0 0) 0 y.1) 1 0 0 (S.1 1 0 0 + 1), z.1, S.2.2), y.2)))))
def y_pers1 (a : Nat → Int32) (m : Nat) (S : xL) (q : Nat) : xF (xL × Nat) := if S.1 2 0 0 = 5 then .inl (y_fl a m q 6) else y_bd (y_new a m S.2.1 (S.1 0 0 0) (S.1 1 0 0) (S.1 2 0 0) (9 + S.1 2 0 0) (y_nxt a m q)) (fun z => y_bd (y_chc a m 10 9999 0 z.2) (fun y => .inr ((v_set (v_set S.1 12 (S.1 2 0 0) 0 y.1) 2 0 0 (S.1 2 0 0 + 1), z.1, S.2.2), y.2)))
def y_has1 (a : Nat → Int32) (m : Nat) (S : xL) (q : Nat) : xF (xL × Nat) := y_bd (y_old a m S.2.1 9 (S.1 2 0 0) (y_nxt a m q)) (fun z => y_bd (y_old a m S.2.1 0 (S.1 0 0 0) z.2) (fun y => y_bd (y_nbr a m 0 999 y.2) (fun x => .inr ((v_set S.1 13 z.1 y.1 x.1, S.2.1, S.2.2), x.2))))
def y_rule1 (a : Nat → Int32) (m i : Nat) (S : xL) (q : Nat) : xF (xL × Nat) := y_bd (y_nbr a m (y_rlo i) (y_rhi i) (y_nxt a m q)) (fun z => .inr ((v_set S.1 (3 + i) 0 0 z.1, S.2.1, fun j => if j = i then true else S.2.2 j), z.2))
theorem y_kind_1 (a : Nat → Int32) (m : Nat) (S : xL) (q : Nat) : y_kind a m S q = y_bd (y_kind1 a m S q) (y_sg a m) := by
  unfold y_kind y_kind1
  by_cases c : S.1 0 0 0 = 4
  · rw [if_pos c, if_pos c]
    rfl
  · rw [if_neg c, if_neg c]
    cases y_new a m S.2.1 (S.1 0 0 0) (S.1 1 0 0) (S.1 2 0 0) (S.1 0 0 0) (y_nxt a m q) with
    | inl e => rfl
    | inr z =>
      show y_bd (y_wrd a m 7 z.2) _ = y_bd (y_bd (y_wrd a m 7 z.2) _) _
      cases y_wrd a m 7 z.2 with
      | inl e => rfl
      | inr q2 =>
        show y_bd (y_nbr a m 1 500 q2) _ = y_bd (y_bd (y_nbr a m 1 500 q2) _) _
        cases y_nbr a m 1 500 q2 with
        | inl e => rfl
        | inr x => rfl
theorem y_good_1 (a : Nat → Int32) (m : Nat) (S : xL) (q : Nat) : y_good a m S q = y_bd (y_good1 a m S q) (y_sg a m) := by
  unfold y_good y_good1
  by_cases c : S.1 1 0 0 = 5
  · rw [if_pos c, if_pos c]
    rfl
  · rw [if_neg c, if_neg c]
    cases y_new a m S.2.1 (S.1 0 0 0) (S.1 1 0 0) (S.1 2 0 0) (4 + S.1 1 0 0) (y_nxt a m q) with
    | inl e => rfl
    | inr z =>
      show y_bd (y_wrd a m 8 z.2) _ = y_bd (y_bd (y_wrd a m 8 z.2) _) _
      cases y_wrd a m 8 z.2 with
      | inl e => rfl
      | inr q2 =>
        show y_bd (y_nbr a m 1 99 q2) _ = y_bd (y_bd (y_nbr a m 1 99 q2) _) _
        cases y_nbr a m 1 99 q2 with
        | inl e => rfl
        | inr x =>
          show y_bd (y_chc a m 9 999 10 x.2) _ = y_bd (y_bd (y_chc a m 9 999 10 x.2) _) _
          cases y_chc a m 9 999 10 x.2 with
          | inl e => rfl
          | inr y => rfl
theorem y_pers_1 (a : Nat → Int32) (m : Nat) (S : xL) (q : Nat) : y_pers a m S q = y_bd (y_pers1 a m S q) (y_sg a m) := by
  unfold y_pers y_pers1
  by_cases c : S.1 2 0 0 = 5
  · rw [if_pos c, if_pos c]
    rfl
  · rw [if_neg c, if_neg c]
    cases y_new a m S.2.1 (S.1 0 0 0) (S.1 1 0 0) (S.1 2 0 0) (9 + S.1 2 0 0) (y_nxt a m q) with
    | inl e => rfl
    | inr z =>
      show y_bd (y_chc a m 10 9999 0 z.2) _ = y_bd (y_bd (y_chc a m 10 9999 0 z.2) _) _
      cases y_chc a m 10 9999 0 z.2 with
      | inl e => rfl
      | inr y => rfl
theorem y_has_1 (a : Nat → Int32) (m : Nat) (S : xL) (q : Nat) : y_has a m S q = y_bd (y_has1 a m S q) (y_sg a m) := by
  unfold y_has y_has1
  cases y_old a m S.2.1 9 (S.1 2 0 0) (y_nxt a m q) with
  | inl e => rfl
  | inr z =>
    show y_bd (y_old a m S.2.1 0 (S.1 0 0 0) z.2) _ = y_bd (y_bd (y_old a m S.2.1 0 (S.1 0 0 0) z.2) _) _
    cases y_old a m S.2.1 0 (S.1 0 0 0) z.2 with
    | inl e => rfl
    | inr y =>
      show y_bd (y_nbr a m 0 999 y.2) _ = y_bd (y_bd (y_nbr a m 0 999 y.2) _) _
      cases y_nbr a m 0 999 y.2 with
      | inl e => rfl
      | inr x => rfl
theorem y_rule_1 (a : Nat → Int32) (m i : Nat) (S : xL) (q : Nat) (h : S.2.2 i = false) : y_rule a m i S q = y_bd (y_rule1 a m i S q) (y_sg a m) := by
  unfold y_rule y_rule1
  rw [if_neg (by rw [h]; decide)]
  cases y_nbr a m (y_rlo i) (y_rhi i) (y_nxt a m q) with
  | inl e => rfl
  | inr z => rfl
/-! the model's land that is being read: slot 1856 -/
theorem v_MA_up {b : Nat} {A : Nat → Int32} {v vp : xV} (h : v_MA A b v) (hm : ∀ c i j, v_all v c i j → v_all vp c i j) (hK : vp 0 0 0 ≤ 4) (hG : vp 1 0 0 ≤ 5) (hP : vp 2 0 0 ≤ 5) {c i j x : Nat} (hv : v_all vp c i j) (hc : 3 ≤ c) : v_MA (va_up A (b + v_pm c i j) (nI x)) b (v_set v c i j x) := by
  have hl := v_am_lt hK hG hP hv
  refine ⟨fun c' i' j' hv' => ?_, ?_, ?_⟩
  · have hv2 := (v_al_set hc).mp hv'
    by_cases e : c' = c ∧ i' = i ∧ j' = j
    · obtain ⟨rfl, rfl, rfl⟩ := e
      rw [v_set_s, x_us]
    · rw [v_set_n e]
      by_cases e2 : v_pm c' i' j' = v_pm c i j
      · exact absurd (v_am_inj hK hG hP hv (hm _ _ _ hv2) e2.symm) e
      · rw [x_un (by omega)]
        exact h.1 c' i' j' hv2
  · rw [x_un (by omega)]
    exact h.2.1
  · rw [x_un (by omega)]
    exact h.2.2
theorem v_MA_more {b : Nat} {A : Nat → Int32} {v : xV} (h : v_MA A b v) {s : Nat} (hs : s ≤ 2) (hK : v_set v s 0 0 (v s 0 0 + 1) 0 0 0 ≤ 4) (hG : v_set v s 0 0 (v s 0 0 + 1) 1 0 0 ≤ 5) (hP : v_set v s 0 0 (v s 0 0 + 1) 2 0 0 ≤ 5) (hn : ∀ c, ((s = 0 ∧ c = 9) ∨ (s = 1 ∧ (c = 10 ∨ c = 11)) ∨ (s = 2 ∧ c = 12)) → A (b + v_pm c (v s 0 0) 0) = nI (v c (v s 0 0) 0)) : v_MA (va_up A (b + s) (nI (v s 0 0 + 1))) b (v_set v s 0 0 (v s 0 0 + 1)) := by
  have ps : v_pm s 0 0 = s := if_pos (by omega)
  have hsv : v_all (v_set v s 0 0 (v s 0 0 + 1)) s 0 0 := by
    unfold v_all
    rw [if_pos (by omega)]
    exact ⟨rfl, rfl⟩
  refine ⟨fun c i j hv => ?_, ?_, ?_⟩
  · by_cases e : c = s ∧ i = 0 ∧ j = 0
    · obtain ⟨rfl, rfl, rfl⟩ := e
      rw [v_set_s, ps, x_us]
    · rw [v_set_n e]
      have old : A (b + v_pm c i j) = nI (v c i j) := by
        rcases v_al_more hs hv with h1 | ⟨rfl, rfl, h1⟩
        · exact h.1 c i j h1
        · exact hn c h1
      by_cases e2 : v_pm c i j = s
      · exact absurd (v_am_inj hK hG hP hsv hv (ps.trans e2.symm)) e
      · rw [x_un (by omega)]
        exact old
  · rw [x_un (by omega)]
    exact h.2.1
  · rw [x_un (by omega)]
    exact h.2.2
theorem v_MA_cg {b : Nat} {A B : Nat → Int32} {v : xV} (h : v_MA A b v) (hB : v_BA v) (he : ∀ j, b ≤ j → j < b + 96 → B j = A j) : v_MA B b v := by
  refine ⟨fun c i j hv => ?_, ?_, ?_⟩
  · have hl := v_am_lt (v_BA_K hB) (v_BA_G hB) (v_BA_P hB) hv
    rw [he _ (by omega) (by omega)]
    exact h.1 c i j hv
  · rw [he _ (by omega) (by omega)]
    exact h.2.1
  · rw [he _ (by omega) (by omega)]
    exact h.2.2
def y_TD (x : Int32) (T : Nat → Bool) : Prop := ∃ τ : Nat, τ < 128 ∧ x = nI τ ∧ ∀ i, i < 3 → (nI τ >>> (nI i &&& 31)) &&& 1 = x_bo (T i)
def x_MS (a : Nat → Int32) (m : Nat) (S : xL) (q : Nat) (F : Nat → Nat → Int32) (G : Nat → Nat → Int64) : Prop := x_RMt a m q F ∧ v_MA (F 501) 1856 S.1 ∧ (F 501 1867 = -1 ∧ ∀ i, S.1 2 0 0 ≤ i → i < 5 → F 501 (1882 + 14 * i) = 0) ∧ y_NR (fun i => G 502 (56 + i)) S.1 S.2.1
def x_fM (f : Nat → Nat → Int32) (g : Nat → Nat → Int64) (F : Nat → Nat → Int32) (G : Nat → Nat → Int64) : Prop := (∀ c, c ≠ 500 → c ≠ 501 → F c = f c) ∧ (∀ j, j < 12 ∨ j = 16 ∨ 18 < j → F 500 j = f 500 j) ∧ (∀ j, j < 1856 ∨ 2320 ≤ j → F 501 j = f 501 j) ∧ (∀ c, c ≠ 502 → G c = g c) ∧ ∀ j, j < 56 ∨ 70 ≤ j → G 502 j = g 502 j
def x_PMd (a : Nat → Int32) (m : Nat) (f : Nat → Nat → Int32) (g : Nat → Nat → Int64) (ρ : Nat → Nat → Option Nat) (dm : List Nat) (n : Nat) (X : xF (xL × Nat)) (z : Option Value) (h' : xH) : Prop := match X with
  | .inl e => z = some (.int 0) ∧ ∃ F G, h' = (F, G, ρ, dm, n) ∧ x_fM f g F G ∧ x_FM F e
  | .inr w => z = some (.int 1) ∧ ∃ F G, h' = (F, G, ρ, dm, n) ∧ x_fM f g F G ∧ x_MS a m w.1 w.2 F G
section C88
variable {f : Nat → Nat → Int32} {g : Nat → Nat → Int64} {r t : Nat} {dm : List Nat} {n d L : Nat} {v : xV} {a : Nat → Int32} {m q : Nat} {N : Nat → Int64} {S : xL} {ρ : Nat → Nat → Option Nat} {X : xF (xL × Nat)} {z : Option Value} {h' : xH} {e : Nat × Nat} {w : xL × Nat} {F : Nat → Nat → Int32} {G : Nat → Nat → Int64}
theorem x_fM_r : x_fM f g f g := ⟨fun _ _ _ => rfl, fun _ _ => rfl, fun _ _ => rfl, fun _ _ => rfl, fun _ _ => rfl⟩
theorem x_fM_t {F2 : Nat → Nat → Int32} {G2 : Nat → Nat → Int64} (h1 : x_fM f g F G) (h2 : x_fM F G F2 G2) : x_fM f g F2 G2 := ⟨fun c c1 c2 => (h2.1 c c1 c2).trans (h1.1 c c1 c2), fun j hj => (h2.2.1 j hj).trans (h1.2.1 j hj), fun j hj => (h2.2.2.1 j hj).trans (h1.2.2.1 j hj), fun c hc => (h2.2.2.2.1 c hc).trans (h1.2.2.2.1 c hc), fun j hj => (h2.2.2.2.2 j hj).trans (h1.2.2.2.2 j hj)⟩
theorem x_fM_5 (h : x_f5 f F) : x_fM f g F g := ⟨fun c c1 _ => h.1 c c1, h.2, fun j _ => by rw [h.1 501 (by decide)], fun _ _ => rfl, fun _ _ => rfl⟩
theorem x_fM_up {i : Nat} {x : Int32} (hi : 1856 ≤ i ∧ i < 2320) : x_fM f g (x_up f 501 i x) g := ⟨fun c _ c2 => x_up_k c2, fun j _ => by rw [x_up_k (by decide)], fun j hj => x_up_j (by omega), fun _ _ => rfl, fun _ _ => rfl⟩
theorem x_fM_gp {i : Nat} {x : Int64} (hi : 56 ≤ i ∧ i < 70) : x_fM f g f (x_up g 502 i x) := ⟨fun _ _ _ => rfl, fun _ _ => rfl, fun _ _ => rfl, fun c hc => x_up_k hc, fun j hj => x_up_j (by omega)⟩
theorem x_PMd_l (hX : X = .inl e) (h1 : x_fM f g F G) (h2 : x_FM F e) : x_PMd a m f g ρ dm n X (some (.int 0)) (F, G, ρ, dm, n) := by
  subst hX
  exact ⟨rfl, F, G, rfl, h1, h2⟩
theorem x_PMd_r (hX : X = .inr w) (h1 : x_fM f g F G) (h2 : x_MS a m w.1 w.2 F G) : x_PMd a m f g ρ dm n X (some (.int 1)) (F, G, ρ, dm, n) := by
  subst hX
  exact ⟨rfl, F, G, rfl, h1, h2⟩
theorem x_PMd_z (h : x_PMd a m f g ρ dm n X z h') : ∃ b : Int32, z = some (.int b) := by
  cases X with
  | inl e => exact ⟨0, h.1⟩
  | inr w => exact ⟨1, h.1⟩
theorem x_MS_5 {q2 : Nat} (hS : x_MS a m S q f g) (h : x_f5 f F) (hR : x_RMt a m q2 F) : x_MS a m S q2 F g := ⟨hR, by rw [h.1 501 (by decide)]; exact hS.2.1, by rw [h.1 501 (by decide)]; exact hS.2.2.1, hS.2.2.2⟩
theorem y_oi_c {N : Nat → Int64} {l : Int64} {b b' M : Nat} {N' : Nat → Int64} (h : y_fd N l b M 0 = y_fd N' l b' M 0) (hM : M ≤ 9) : y_oi (y_fd N l b M 0) = -1 ↔ (y_fd N' l b' M 0).isSome = false := by
  rw [h]
  exact y_oi_no hM
theorem y_NRm_0 (h : y_NR (fun i => g 502 (56 + i)) v N) (l : Int64) : y_fd (g 502) l 56 (v 0 0 0) 0 = y_fd N l 0 (v 0 0 0) 0 := y_fd_cg _ _ (fun k _ h2 => by rw [Nat.zero_add]; exact h.1 k (by omega))
theorem y_NRm_4 (h : y_NR (fun i => g 502 (56 + i)) v N) (l : Int64) : y_fd (g 502) l 60 (v 1 0 0) 0 = y_fd N l 4 (v 1 0 0) 0 := y_fd_cg _ _ (fun k _ h2 => by have e := h.2.1 k (by omega); rw [← e]; show _ = g 502 (56 + (4 + k)); rw [show 56 + (4 + k) = 60 + k by omega])
theorem y_NRm_9 (h : y_NR (fun i => g 502 (56 + i)) v N) (l : Int64) : y_fd (g 502) l 65 (v 2 0 0) 0 = y_fd N l 9 (v 2 0 0) 0 := y_fd_cg _ _ (fun k _ h2 => by have e := h.2.2 k (by omega); rw [← e]; show _ = g 502 (56 + (9 + k)); rw [show 56 + (9 + k) = 65 + k by omega])
theorem m_newOne_0 (hT : y_TP a m) (hB : v_BA S.1) (hS : x_MS a m S q f g) (hw : y_sa a m q = 1) : x_Ct 211 (d + 7) [.ref 500, .int 0, .int 4, .int 0] (f, g, x_HR r t, dm, n) (fun z h' => match (if S.1 0 0 0 = 4 then .inl (y_fl a m q 6) else y_new a m S.2.1 (S.1 0 0 0) (S.1 1 0 0) (S.1 2 0 0) (0 + S.1 0 0 0) (y_nxt a m q) : xF ((Nat → Int64) × Nat)) with
    | .inl e => z = some (.int 0) ∧ ∃ F, h' = (F, g, x_HR r t, dm, n) ∧ x_f5 f F ∧ x_FM F e
    | .inr w => z = some (.int 1) ∧ ∃ F, h' = (F, x_up g 502 (56 + (0 + S.1 0 0 0)) (y_lt a m (y_nxt a m q)), x_HR r t, dm, n) ∧ x_f5 f F ∧ x_RMt a m w.2 F) := by
  obtain ⟨Po, hPo⟩ : ∃ Po : Option Value → xH → Prop, Po = (fun z h' => match (if S.1 0 0 0 = 4 then .inl (y_fl a m q 6) else y_new a m S.2.1 (S.1 0 0 0) (S.1 1 0 0) (S.1 2 0 0) (0 + S.1 0 0 0) (y_nxt a m q) : xF ((Nat → Int64) × Nat)) with
    | .inl e => z = some (.int 0) ∧ ∃ F, h' = (F, g, x_HR r t, dm, n) ∧ x_f5 f F ∧ x_FM F e
    | .inr w => z = some (.int 1) ∧ ∃ F, h' = (F, x_up g 502 (56 + (0 + S.1 0 0 0)) (y_lt a m (y_nxt a m q)), x_HR r t, dm, n) ∧ x_f5 f F ∧ x_RMt a m w.2 F) := ⟨_, rfl⟩
  rw [← hPo]
  have h0 : f 501 1856 = nI (S.1 0 0 0) := hS.2.1.1 0 0 0 ⟨rfl, rfl⟩
  have h1 : f 501 1857 = nI (S.1 1 0 0) := hS.2.1.1 1 0 0 ⟨rfl, rfl⟩
  have h2 : f 501 1858 = nI (S.1 2 0 0) := hS.2.1.1 2 0 0 ⟨rfl, rfl⟩
  have b0 := v_BA_K hB
  have b1 := v_BA_G hB
  have b2 := v_BA_P hB
  refine x_Ct_w (by decide) (Nat.le_of_ble_eq_true rfl) ok211 [94, 100] 6 ?_
  refine And.intro (by unfold x_ix; decide) ?_
  refine And.intro (fun c => ?_) (fun c => ?_)
  · have c : ¬ f 501 1856 = nI 4 := c
    rw [h0, nI_eq (by omega) (by omega)] at c
    refine Exists.intro _ (And.intro (m_ahd hT hS.1 (by rw [hw]; decide)) (And.intro (And.intro (Nat.zero_le _) (Nat.zero_le _)) (fun zq h' hpo => ?_)))
    obtain ⟨rfl, F1, rfl, u1, u2, u3⟩ := hpo
    have e501 : F1 501 = f 501 := u1.1 501 (by decide)
    refine Exists.intro _ (And.intro (m_isName hT u3) (And.intro (And.intro (Nat.zero_le _) (Nat.zero_le _)) (fun q h' hpo => ?_)))
    obtain ⟨rfl, rfl⟩ := hpo
    cases e : y_nm a m (y_nxt a m q) with
    | false =>
      refine And.intro (fun c => absurd rfl c) (fun _ => ?_)
      refine Exists.intro _ (And.intro (m_fails (k := 2) u3) (And.intro (And.intro (Nat.zero_le _) (Nat.zero_le _)) (fun zq h' hpo => ?_)))
      obtain ⟨rfl, F2, rfl, w1, w2⟩ := hpo
      refine And.intro ?_ ⟨Or.inl rfl, Nat.le_refl _, Nat.le_refl _⟩
      have eX : y_new a m S.2.1 (S.1 0 0 0) (S.1 1 0 0) (S.1 2 0 0) (0 + S.1 0 0 0) (y_nxt a m q) = .inl (y_fl a m (y_nxt a m q) 2) := if_neg (by rw [e]; decide)
      rw [hPo, if_neg c, eX]
      exact ⟨rfl, F2, rfl, x_f5_t u1 w1, w2⟩
    | true =>
      obtain ⟨s1, s2, s3⟩ := y_nm_sa e
      refine And.intro (fun _ => ?_) (fun c => absurd (show (1 : Int32) = 0 from c) (by decide))
      have bad : y_tkn S.2.1 (y_lt a m (y_nxt a m q)) (S.1 0 0 0) (S.1 1 0 0) (S.1 2 0 0) = true → x_J 211 (d + 7) Po 94 [some (.ref 500), some (.int 0), some (.int 4), some (.int 0)] [] (F1, g, x_HR r t, dm, n) 0 0 := by
        intro h
        refine x_wp_ok ok211 [] 6 ?_
        refine Exists.intro _ (And.intro (m_fails (k := 3) u3) (And.intro (And.intro (Nat.zero_le _) (Nat.zero_le _)) (fun zq h' hpo => ?_)))
        obtain ⟨rfl, F2, rfl, w1, w2⟩ := hpo
        refine And.intro ?_ ⟨Or.inl rfl, Nat.le_refl _, Nat.le_refl _⟩
        have eX : y_new a m S.2.1 (S.1 0 0 0) (S.1 1 0 0) (S.1 2 0 0) (0 + S.1 0 0 0) (y_nxt a m q) = .inl (y_fl a m (y_nxt a m q) 3) := (if_pos e).trans (if_pos h)
        rw [hPo, if_neg c, eX]
        exact ⟨rfl, F2, rfl, x_f5_t u1 w1, w2⟩
      refine And.intro (by unfold x_ix; decide) ?_
      show ∃ P, x_Ct 207 (d + 6) [.ref 500, .int (nI 56), .int (F1 501 1856)] _ P ∧ _
      rw [e501, h0]
      refine Exists.intro _ (And.intro (m_findHere (b := 56) (M := S.1 0 0 0) (by omega) hT u3 s1) (And.intro (And.intro (Nat.zero_le _) (Nat.zero_le _)) (fun q h' hpo => ?_)))
      obtain ⟨rfl, rfl⟩ := hpo
      refine And.intro (fun c0 => ?_) (fun c0 => ?_)
      · have c0 : ¬ y_oi (y_fd (g 502) (y_lt a m (y_nxt a m q)) 56 (S.1 0 0 0) 0) = -1 := c0
        rw [y_oi_c (y_NRm_0 hS.2.2.2 _) (by omega), Bool.not_eq_false] at c0
        exact bad (by unfold y_tkn; rw [c0]; rfl)
      · have c0 : y_oi (y_fd (g 502) (y_lt a m (y_nxt a m q)) 56 (S.1 0 0 0) 0) = -1 := c0
        rw [y_oi_c (y_NRm_0 hS.2.2.2 _) (by omega)] at c0
        refine And.intro (by unfold x_ix; decide) ?_
        show ∃ P, x_Ct 207 (d + 6) [.ref 500, .int (nI 60), .int (F1 501 1857)] _ P ∧ _
        rw [e501, h1]
        refine Exists.intro _ (And.intro (m_findHere (b := 60) (M := S.1 1 0 0) (by omega) hT u3 s1) (And.intro (And.intro (Nat.zero_le _) (Nat.zero_le _)) (fun q h' hpo => ?_)))
        obtain ⟨rfl, rfl⟩ := hpo
        refine And.intro (fun c1 => ?_) (fun c1 => ?_)
        · have c1 : ¬ y_oi (y_fd (g 502) (y_lt a m (y_nxt a m q)) 60 (S.1 1 0 0) 0) = -1 := c1
          rw [y_oi_c (y_NRm_4 hS.2.2.2 _) (by omega), Bool.not_eq_false] at c1
          exact bad (by unfold y_tkn; rw [c0, c1]; rfl)
        · have c1 : y_oi (y_fd (g 502) (y_lt a m (y_nxt a m q)) 60 (S.1 1 0 0) 0) = -1 := c1
          rw [y_oi_c (y_NRm_4 hS.2.2.2 _) (by omega)] at c1
          refine And.intro (by unfold x_ix; decide) ?_
          show ∃ P, x_Ct 207 (d + 6) [.ref 500, .int (nI 65), .int (F1 501 1858)] _ P ∧ _
          rw [e501, h2]
          refine Exists.intro _ (And.intro (m_findHere (b := 65) (M := S.1 2 0 0) (by omega) hT u3 s1) (And.intro (And.intro (Nat.zero_le _) (Nat.zero_le _)) (fun q h' hpo => ?_)))
          obtain ⟨rfl, rfl⟩ := hpo
          refine And.intro (fun c2 => ?_) (fun c2 => ?_)
          · have c2 : y_oi (y_fd (g 502) (y_lt a m (y_nxt a m q)) 65 (S.1 2 0 0) 0) = -1 := c2
            rw [y_oi_c (y_NRm_9 hS.2.2.2 _) (by omega)] at c2
            have et : y_tkn S.2.1 (y_lt a m (y_nxt a m q)) (S.1 0 0 0) (S.1 1 0 0) (S.1 2 0 0) = false := by
              unfold y_tkn
              rw [c0, c1, c2]
              rfl
            refine x_wp_ok ok211 [] 6 ?_
            refine And.intro (by unfold x_ix; decide) ?_
            refine Exists.intro _ (And.intro (m_nameHere hT u3 s1) (And.intro (And.intro (Nat.zero_le _) (Nat.zero_le _)) (fun q h' hpo => ?_)))
            obtain ⟨rfl, rfl⟩ := hpo
            have ix : nI 56 + nI 0 + F1 501 1856 = nI (56 + (0 + S.1 0 0 0)) := by rw [e501, h0, nI_add, nI_add, Nat.add_assoc]
            refine And.intro (by show x_ix (nI 56 + nI 0 + F1 501 1856) 84; rw [ix]; exact x_ix_nI (by omega) (by omega)) ?_
            have ec : (nI 56 + nI 0 + F1 501 1856).toNatClampNeg = 56 + (0 + S.1 0 0 0) := by rw [ix]; exact nI_clamp (by omega)
            show ∃ P, x_Ct 197 (d + 6) [.ref 500] (F1, x_up g 502 (nI 56 + nI 0 + F1 501 1856).toNatClampNeg (y_lt a m (y_nxt a m q)), x_HR r t, dm, n) P ∧ _
            rw [ec]
            refine Exists.intro _ (And.intro (m_ahd hT u3 (by rw [s1]; decide)) (And.intro (And.intro (Nat.zero_le _) (Nat.zero_le _)) (fun zq h' hpo => ?_)))
            obtain ⟨rfl, F2, rfl, w1, w2, w3⟩ := hpo
            refine And.intro ?_ ⟨Or.inr rfl, Nat.le_refl _, Nat.le_refl _⟩
            have eX : y_new a m S.2.1 (S.1 0 0 0) (S.1 1 0 0) (S.1 2 0 0) (0 + S.1 0 0 0) (y_nxt a m q) = .inr (va_up S.2.1 (0 + S.1 0 0 0) (y_lt a m (y_nxt a m q)), y_nxt a m (y_nxt a m q)) := (if_pos e).trans (if_neg (by rw [et]; decide))
            rw [hPo, if_neg c, eX]
            exact ⟨rfl, F2, rfl, x_f5_t u1 w1, w3⟩
          · have c2 : ¬ y_oi (y_fd (g 502) (y_lt a m (y_nxt a m q)) 65 (S.1 2 0 0) 0) = -1 := c2
            rw [y_oi_c (y_NRm_9 hS.2.2.2 _) (by omega), Bool.not_eq_false] at c2
            exact bad (by unfold y_tkn; rw [c0, c1, c2]; rfl)
  · have c : f 501 1856 = nI 4 := c
    rw [h0, nI_eq (by omega) (by omega)] at c
    refine Exists.intro _ (And.intro (m_fails (k := 6) hS.1) (And.intro (And.intro (Nat.zero_le _) (Nat.zero_le _)) (fun zq h' hpo => ?_)))
    obtain ⟨rfl, F1, rfl, u1, u2⟩ := hpo
    refine And.intro ?_ ⟨Or.inl rfl, Nat.le_refl _, Nat.le_refl _⟩
    rw [hPo, if_pos c]
    exact ⟨rfl, F1, rfl, u1, u2⟩
theorem m_newOne_1 (hT : y_TP a m) (hB : v_BA S.1) (hS : x_MS a m S q f g) (hw : y_sa a m q = 1) : x_Ct 211 (d + 7) [.ref 500, .int 1, .int 5, .int 4] (f, g, x_HR r t, dm, n) (fun z h' => match (if S.1 1 0 0 = 5 then .inl (y_fl a m q 6) else y_new a m S.2.1 (S.1 0 0 0) (S.1 1 0 0) (S.1 2 0 0) (4 + S.1 1 0 0) (y_nxt a m q) : xF ((Nat → Int64) × Nat)) with
    | .inl e => z = some (.int 0) ∧ ∃ F, h' = (F, g, x_HR r t, dm, n) ∧ x_f5 f F ∧ x_FM F e
    | .inr w => z = some (.int 1) ∧ ∃ F, h' = (F, x_up g 502 (56 + (4 + S.1 1 0 0)) (y_lt a m (y_nxt a m q)), x_HR r t, dm, n) ∧ x_f5 f F ∧ x_RMt a m w.2 F) := by
  obtain ⟨Po, hPo⟩ : ∃ Po : Option Value → xH → Prop, Po = (fun z h' => match (if S.1 1 0 0 = 5 then .inl (y_fl a m q 6) else y_new a m S.2.1 (S.1 0 0 0) (S.1 1 0 0) (S.1 2 0 0) (4 + S.1 1 0 0) (y_nxt a m q) : xF ((Nat → Int64) × Nat)) with
    | .inl e => z = some (.int 0) ∧ ∃ F, h' = (F, g, x_HR r t, dm, n) ∧ x_f5 f F ∧ x_FM F e
    | .inr w => z = some (.int 1) ∧ ∃ F, h' = (F, x_up g 502 (56 + (4 + S.1 1 0 0)) (y_lt a m (y_nxt a m q)), x_HR r t, dm, n) ∧ x_f5 f F ∧ x_RMt a m w.2 F) := ⟨_, rfl⟩
  rw [← hPo]
  have h0 : f 501 1856 = nI (S.1 0 0 0) := hS.2.1.1 0 0 0 ⟨rfl, rfl⟩
  have h1 : f 501 1857 = nI (S.1 1 0 0) := hS.2.1.1 1 0 0 ⟨rfl, rfl⟩
  have h2 : f 501 1858 = nI (S.1 2 0 0) := hS.2.1.1 2 0 0 ⟨rfl, rfl⟩
  have b0 := v_BA_K hB
  have b1 := v_BA_G hB
  have b2 := v_BA_P hB
  refine x_Ct_w (by decide) (Nat.le_of_ble_eq_true rfl) ok211 [94, 100] 6 ?_
  refine And.intro (by unfold x_ix; decide) ?_
  refine And.intro (fun c => ?_) (fun c => ?_)
  · have c : ¬ f 501 1857 = nI 5 := c
    rw [h1, nI_eq (by omega) (by omega)] at c
    refine Exists.intro _ (And.intro (m_ahd hT hS.1 (by rw [hw]; decide)) (And.intro (And.intro (Nat.zero_le _) (Nat.zero_le _)) (fun zq h' hpo => ?_)))
    obtain ⟨rfl, F1, rfl, u1, u2, u3⟩ := hpo
    have e501 : F1 501 = f 501 := u1.1 501 (by decide)
    refine Exists.intro _ (And.intro (m_isName hT u3) (And.intro (And.intro (Nat.zero_le _) (Nat.zero_le _)) (fun q h' hpo => ?_)))
    obtain ⟨rfl, rfl⟩ := hpo
    cases e : y_nm a m (y_nxt a m q) with
    | false =>
      refine And.intro (fun c => absurd rfl c) (fun _ => ?_)
      refine Exists.intro _ (And.intro (m_fails (k := 2) u3) (And.intro (And.intro (Nat.zero_le _) (Nat.zero_le _)) (fun zq h' hpo => ?_)))
      obtain ⟨rfl, F2, rfl, w1, w2⟩ := hpo
      refine And.intro ?_ ⟨Or.inl rfl, Nat.le_refl _, Nat.le_refl _⟩
      have eX : y_new a m S.2.1 (S.1 0 0 0) (S.1 1 0 0) (S.1 2 0 0) (4 + S.1 1 0 0) (y_nxt a m q) = .inl (y_fl a m (y_nxt a m q) 2) := if_neg (by rw [e]; decide)
      rw [hPo, if_neg c, eX]
      exact ⟨rfl, F2, rfl, x_f5_t u1 w1, w2⟩
    | true =>
      obtain ⟨s1, s2, s3⟩ := y_nm_sa e
      refine And.intro (fun _ => ?_) (fun c => absurd (show (1 : Int32) = 0 from c) (by decide))
      have bad : y_tkn S.2.1 (y_lt a m (y_nxt a m q)) (S.1 0 0 0) (S.1 1 0 0) (S.1 2 0 0) = true → x_J 211 (d + 7) Po 94 [some (.ref 500), some (.int 1), some (.int 5), some (.int 4)] [] (F1, g, x_HR r t, dm, n) 0 0 := by
        intro h
        refine x_wp_ok ok211 [] 6 ?_
        refine Exists.intro _ (And.intro (m_fails (k := 3) u3) (And.intro (And.intro (Nat.zero_le _) (Nat.zero_le _)) (fun zq h' hpo => ?_)))
        obtain ⟨rfl, F2, rfl, w1, w2⟩ := hpo
        refine And.intro ?_ ⟨Or.inl rfl, Nat.le_refl _, Nat.le_refl _⟩
        have eX : y_new a m S.2.1 (S.1 0 0 0) (S.1 1 0 0) (S.1 2 0 0) (4 + S.1 1 0 0) (y_nxt a m q) = .inl (y_fl a m (y_nxt a m q) 3) := (if_pos e).trans (if_pos h)
        rw [hPo, if_neg c, eX]
        exact ⟨rfl, F2, rfl, x_f5_t u1 w1, w2⟩
      refine And.intro (by unfold x_ix; decide) ?_
      show ∃ P, x_Ct 207 (d + 6) [.ref 500, .int (nI 56), .int (F1 501 1856)] _ P ∧ _
      rw [e501, h0]
      refine Exists.intro _ (And.intro (m_findHere (b := 56) (M := S.1 0 0 0) (by omega) hT u3 s1) (And.intro (And.intro (Nat.zero_le _) (Nat.zero_le _)) (fun q h' hpo => ?_)))
      obtain ⟨rfl, rfl⟩ := hpo
      refine And.intro (fun c0 => ?_) (fun c0 => ?_)
      · have c0 : ¬ y_oi (y_fd (g 502) (y_lt a m (y_nxt a m q)) 56 (S.1 0 0 0) 0) = -1 := c0
        rw [y_oi_c (y_NRm_0 hS.2.2.2 _) (by omega), Bool.not_eq_false] at c0
        exact bad (by unfold y_tkn; rw [c0]; rfl)
      · have c0 : y_oi (y_fd (g 502) (y_lt a m (y_nxt a m q)) 56 (S.1 0 0 0) 0) = -1 := c0
        rw [y_oi_c (y_NRm_0 hS.2.2.2 _) (by omega)] at c0
        refine And.intro (by unfold x_ix; decide) ?_
        show ∃ P, x_Ct 207 (d + 6) [.ref 500, .int (nI 60), .int (F1 501 1857)] _ P ∧ _
        rw [e501, h1]
        refine Exists.intro _ (And.intro (m_findHere (b := 60) (M := S.1 1 0 0) (by omega) hT u3 s1) (And.intro (And.intro (Nat.zero_le _) (Nat.zero_le _)) (fun q h' hpo => ?_)))
        obtain ⟨rfl, rfl⟩ := hpo
        refine And.intro (fun c1 => ?_) (fun c1 => ?_)
        · have c1 : ¬ y_oi (y_fd (g 502) (y_lt a m (y_nxt a m q)) 60 (S.1 1 0 0) 0) = -1 := c1
          rw [y_oi_c (y_NRm_4 hS.2.2.2 _) (by omega), Bool.not_eq_false] at c1
          exact bad (by unfold y_tkn; rw [c0, c1]; rfl)
        · have c1 : y_oi (y_fd (g 502) (y_lt a m (y_nxt a m q)) 60 (S.1 1 0 0) 0) = -1 := c1
          rw [y_oi_c (y_NRm_4 hS.2.2.2 _) (by omega)] at c1
          refine And.intro (by unfold x_ix; decide) ?_
          show ∃ P, x_Ct 207 (d + 6) [.ref 500, .int (nI 65), .int (F1 501 1858)] _ P ∧ _
          rw [e501, h2]
          refine Exists.intro _ (And.intro (m_findHere (b := 65) (M := S.1 2 0 0) (by omega) hT u3 s1) (And.intro (And.intro (Nat.zero_le _) (Nat.zero_le _)) (fun q h' hpo => ?_)))
          obtain ⟨rfl, rfl⟩ := hpo
          refine And.intro (fun c2 => ?_) (fun c2 => ?_)
          · have c2 : y_oi (y_fd (g 502) (y_lt a m (y_nxt a m q)) 65 (S.1 2 0 0) 0) = -1 := c2
            rw [y_oi_c (y_NRm_9 hS.2.2.2 _) (by omega)] at c2
            have et : y_tkn S.2.1 (y_lt a m (y_nxt a m q)) (S.1 0 0 0) (S.1 1 0 0) (S.1 2 0 0) = false := by
              unfold y_tkn
              rw [c0, c1, c2]
              rfl
            refine x_wp_ok ok211 [] 6 ?_
            refine And.intro (by unfold x_ix; decide) ?_
            refine Exists.intro _ (And.intro (m_nameHere hT u3 s1) (And.intro (And.intro (Nat.zero_le _) (Nat.zero_le _)) (fun q h' hpo => ?_)))
            obtain ⟨rfl, rfl⟩ := hpo
            have ix : nI 56 + nI 4 + F1 501 1857 = nI (56 + (4 + S.1 1 0 0)) := by rw [e501, h1, nI_add, nI_add, Nat.add_assoc]
            refine And.intro (by show x_ix (nI 56 + nI 4 + F1 501 1857) 84; rw [ix]; exact x_ix_nI (by omega) (by omega)) ?_
            have ec : (nI 56 + nI 4 + F1 501 1857).toNatClampNeg = 56 + (4 + S.1 1 0 0) := by rw [ix]; exact nI_clamp (by omega)
            show ∃ P, x_Ct 197 (d + 6) [.ref 500] (F1, x_up g 502 (nI 56 + nI 4 + F1 501 1857).toNatClampNeg (y_lt a m (y_nxt a m q)), x_HR r t, dm, n) P ∧ _
            rw [ec]
            refine Exists.intro _ (And.intro (m_ahd hT u3 (by rw [s1]; decide)) (And.intro (And.intro (Nat.zero_le _) (Nat.zero_le _)) (fun zq h' hpo => ?_)))
            obtain ⟨rfl, F2, rfl, w1, w2, w3⟩ := hpo
            refine And.intro ?_ ⟨Or.inr rfl, Nat.le_refl _, Nat.le_refl _⟩
            have eX : y_new a m S.2.1 (S.1 0 0 0) (S.1 1 0 0) (S.1 2 0 0) (4 + S.1 1 0 0) (y_nxt a m q) = .inr (va_up S.2.1 (4 + S.1 1 0 0) (y_lt a m (y_nxt a m q)), y_nxt a m (y_nxt a m q)) := (if_pos e).trans (if_neg (by rw [et]; decide))
            rw [hPo, if_neg c, eX]
            exact ⟨rfl, F2, rfl, x_f5_t u1 w1, w3⟩
          · have c2 : ¬ y_oi (y_fd (g 502) (y_lt a m (y_nxt a m q)) 65 (S.1 2 0 0) 0) = -1 := c2
            rw [y_oi_c (y_NRm_9 hS.2.2.2 _) (by omega), Bool.not_eq_false] at c2
            exact bad (by unfold y_tkn; rw [c0, c1, c2]; rfl)
  · have c : f 501 1857 = nI 5 := c
    rw [h1, nI_eq (by omega) (by omega)] at c
    refine Exists.intro _ (And.intro (m_fails (k := 6) hS.1) (And.intro (And.intro (Nat.zero_le _) (Nat.zero_le _)) (fun zq h' hpo => ?_)))
    obtain ⟨rfl, F1, rfl, u1, u2⟩ := hpo
    refine And.intro ?_ ⟨Or.inl rfl, Nat.le_refl _, Nat.le_refl _⟩
    rw [hPo, if_pos c]
    exact ⟨rfl, F1, rfl, u1, u2⟩
theorem m_newOne_2 (hT : y_TP a m) (hB : v_BA S.1) (hS : x_MS a m S q f g) (hw : y_sa a m q = 1) : x_Ct 211 (d + 7) [.ref 500, .int 2, .int 5, .int 9] (f, g, x_HR r t, dm, n) (fun z h' => match (if S.1 2 0 0 = 5 then .inl (y_fl a m q 6) else y_new a m S.2.1 (S.1 0 0 0) (S.1 1 0 0) (S.1 2 0 0) (9 + S.1 2 0 0) (y_nxt a m q) : xF ((Nat → Int64) × Nat)) with
    | .inl e => z = some (.int 0) ∧ ∃ F, h' = (F, g, x_HR r t, dm, n) ∧ x_f5 f F ∧ x_FM F e
    | .inr w => z = some (.int 1) ∧ ∃ F, h' = (F, x_up g 502 (56 + (9 + S.1 2 0 0)) (y_lt a m (y_nxt a m q)), x_HR r t, dm, n) ∧ x_f5 f F ∧ x_RMt a m w.2 F) := by
  obtain ⟨Po, hPo⟩ : ∃ Po : Option Value → xH → Prop, Po = (fun z h' => match (if S.1 2 0 0 = 5 then .inl (y_fl a m q 6) else y_new a m S.2.1 (S.1 0 0 0) (S.1 1 0 0) (S.1 2 0 0) (9 + S.1 2 0 0) (y_nxt a m q) : xF ((Nat → Int64) × Nat)) with
    | .inl e => z = some (.int 0) ∧ ∃ F, h' = (F, g, x_HR r t, dm, n) ∧ x_f5 f F ∧ x_FM F e
    | .inr w => z = some (.int 1) ∧ ∃ F, h' = (F, x_up g 502 (56 + (9 + S.1 2 0 0)) (y_lt a m (y_nxt a m q)), x_HR r t, dm, n) ∧ x_f5 f F ∧ x_RMt a m w.2 F) := ⟨_, rfl⟩
  rw [← hPo]
  have h0 : f 501 1856 = nI (S.1 0 0 0) := hS.2.1.1 0 0 0 ⟨rfl, rfl⟩
  have h1 : f 501 1857 = nI (S.1 1 0 0) := hS.2.1.1 1 0 0 ⟨rfl, rfl⟩
  have h2 : f 501 1858 = nI (S.1 2 0 0) := hS.2.1.1 2 0 0 ⟨rfl, rfl⟩
  have b0 := v_BA_K hB
  have b1 := v_BA_G hB
  have b2 := v_BA_P hB
  refine x_Ct_w (by decide) (Nat.le_of_ble_eq_true rfl) ok211 [94, 100] 6 ?_
  refine And.intro (by unfold x_ix; decide) ?_
  refine And.intro (fun c => ?_) (fun c => ?_)
  · have c : ¬ f 501 1858 = nI 5 := c
    rw [h2, nI_eq (by omega) (by omega)] at c
    refine Exists.intro _ (And.intro (m_ahd hT hS.1 (by rw [hw]; decide)) (And.intro (And.intro (Nat.zero_le _) (Nat.zero_le _)) (fun zq h' hpo => ?_)))
    obtain ⟨rfl, F1, rfl, u1, u2, u3⟩ := hpo
    have e501 : F1 501 = f 501 := u1.1 501 (by decide)
    refine Exists.intro _ (And.intro (m_isName hT u3) (And.intro (And.intro (Nat.zero_le _) (Nat.zero_le _)) (fun q h' hpo => ?_)))
    obtain ⟨rfl, rfl⟩ := hpo
    cases e : y_nm a m (y_nxt a m q) with
    | false =>
      refine And.intro (fun c => absurd rfl c) (fun _ => ?_)
      refine Exists.intro _ (And.intro (m_fails (k := 2) u3) (And.intro (And.intro (Nat.zero_le _) (Nat.zero_le _)) (fun zq h' hpo => ?_)))
      obtain ⟨rfl, F2, rfl, w1, w2⟩ := hpo
      refine And.intro ?_ ⟨Or.inl rfl, Nat.le_refl _, Nat.le_refl _⟩
      have eX : y_new a m S.2.1 (S.1 0 0 0) (S.1 1 0 0) (S.1 2 0 0) (9 + S.1 2 0 0) (y_nxt a m q) = .inl (y_fl a m (y_nxt a m q) 2) := if_neg (by rw [e]; decide)
      rw [hPo, if_neg c, eX]
      exact ⟨rfl, F2, rfl, x_f5_t u1 w1, w2⟩
    | true =>
      obtain ⟨s1, s2, s3⟩ := y_nm_sa e
      refine And.intro (fun _ => ?_) (fun c => absurd (show (1 : Int32) = 0 from c) (by decide))
      have bad : y_tkn S.2.1 (y_lt a m (y_nxt a m q)) (S.1 0 0 0) (S.1 1 0 0) (S.1 2 0 0) = true → x_J 211 (d + 7) Po 94 [some (.ref 500), some (.int 2), some (.int 5), some (.int 9)] [] (F1, g, x_HR r t, dm, n) 0 0 := by
        intro h
        refine x_wp_ok ok211 [] 6 ?_
        refine Exists.intro _ (And.intro (m_fails (k := 3) u3) (And.intro (And.intro (Nat.zero_le _) (Nat.zero_le _)) (fun zq h' hpo => ?_)))
        obtain ⟨rfl, F2, rfl, w1, w2⟩ := hpo
        refine And.intro ?_ ⟨Or.inl rfl, Nat.le_refl _, Nat.le_refl _⟩
        have eX : y_new a m S.2.1 (S.1 0 0 0) (S.1 1 0 0) (S.1 2 0 0) (9 + S.1 2 0 0) (y_nxt a m q) = .inl (y_fl a m (y_nxt a m q) 3) := (if_pos e).trans (if_pos h)
        rw [hPo, if_neg c, eX]
        exact ⟨rfl, F2, rfl, x_f5_t u1 w1, w2⟩
      refine And.intro (by unfold x_ix; decide) ?_
      show ∃ P, x_Ct 207 (d + 6) [.ref 500, .int (nI 56), .int (F1 501 1856)] _ P ∧ _
      rw [e501, h0]
      refine Exists.intro _ (And.intro (m_findHere (b := 56) (M := S.1 0 0 0) (by omega) hT u3 s1) (And.intro (And.intro (Nat.zero_le _) (Nat.zero_le _)) (fun q h' hpo => ?_)))
      obtain ⟨rfl, rfl⟩ := hpo
      refine And.intro (fun c0 => ?_) (fun c0 => ?_)
      · have c0 : ¬ y_oi (y_fd (g 502) (y_lt a m (y_nxt a m q)) 56 (S.1 0 0 0) 0) = -1 := c0
        rw [y_oi_c (y_NRm_0 hS.2.2.2 _) (by omega), Bool.not_eq_false] at c0
        exact bad (by unfold y_tkn; rw [c0]; rfl)
      · have c0 : y_oi (y_fd (g 502) (y_lt a m (y_nxt a m q)) 56 (S.1 0 0 0) 0) = -1 := c0
        rw [y_oi_c (y_NRm_0 hS.2.2.2 _) (by omega)] at c0
        refine And.intro (by unfold x_ix; decide) ?_
        show ∃ P, x_Ct 207 (d + 6) [.ref 500, .int (nI 60), .int (F1 501 1857)] _ P ∧ _
        rw [e501, h1]
        refine Exists.intro _ (And.intro (m_findHere (b := 60) (M := S.1 1 0 0) (by omega) hT u3 s1) (And.intro (And.intro (Nat.zero_le _) (Nat.zero_le _)) (fun q h' hpo => ?_)))
        obtain ⟨rfl, rfl⟩ := hpo
        refine And.intro (fun c1 => ?_) (fun c1 => ?_)
        · have c1 : ¬ y_oi (y_fd (g 502) (y_lt a m (y_nxt a m q)) 60 (S.1 1 0 0) 0) = -1 := c1
          rw [y_oi_c (y_NRm_4 hS.2.2.2 _) (by omega), Bool.not_eq_false] at c1
          exact bad (by unfold y_tkn; rw [c0, c1]; rfl)
        · have c1 : y_oi (y_fd (g 502) (y_lt a m (y_nxt a m q)) 60 (S.1 1 0 0) 0) = -1 := c1
          rw [y_oi_c (y_NRm_4 hS.2.2.2 _) (by omega)] at c1
          refine And.intro (by unfold x_ix; decide) ?_
          show ∃ P, x_Ct 207 (d + 6) [.ref 500, .int (nI 65), .int (F1 501 1858)] _ P ∧ _
          rw [e501, h2]
          refine Exists.intro _ (And.intro (m_findHere (b := 65) (M := S.1 2 0 0) (by omega) hT u3 s1) (And.intro (And.intro (Nat.zero_le _) (Nat.zero_le _)) (fun q h' hpo => ?_)))
          obtain ⟨rfl, rfl⟩ := hpo
          refine And.intro (fun c2 => ?_) (fun c2 => ?_)
          · have c2 : y_oi (y_fd (g 502) (y_lt a m (y_nxt a m q)) 65 (S.1 2 0 0) 0) = -1 := c2
            rw [y_oi_c (y_NRm_9 hS.2.2.2 _) (by omega)] at c2
            have et : y_tkn S.2.1 (y_lt a m (y_nxt a m q)) (S.1 0 0 0) (S.1 1 0 0) (S.1 2 0 0) = false := by
              unfold y_tkn
              rw [c0, c1, c2]
              rfl
            refine x_wp_ok ok211 [] 6 ?_
            refine And.intro (by unfold x_ix; decide) ?_
            refine Exists.intro _ (And.intro (m_nameHere hT u3 s1) (And.intro (And.intro (Nat.zero_le _) (Nat.zero_le _)) (fun q h' hpo => ?_)))
            obtain ⟨rfl, rfl⟩ := hpo
            have ix : nI 56 + nI 9 + F1 501 1858 = nI (56 + (9 + S.1 2 0 0)) := by rw [e501, h2, nI_add, nI_add, Nat.add_assoc]
            refine And.intro (by show x_ix (nI 56 + nI 9 + F1 501 1858) 84; rw [ix]; exact x_ix_nI (by omega) (by omega)) ?_
            have ec : (nI 56 + nI 9 + F1 501 1858).toNatClampNeg = 56 + (9 + S.1 2 0 0) := by rw [ix]; exact nI_clamp (by omega)
            show ∃ P, x_Ct 197 (d + 6) [.ref 500] (F1, x_up g 502 (nI 56 + nI 9 + F1 501 1858).toNatClampNeg (y_lt a m (y_nxt a m q)), x_HR r t, dm, n) P ∧ _
            rw [ec]
            refine Exists.intro _ (And.intro (m_ahd hT u3 (by rw [s1]; decide)) (And.intro (And.intro (Nat.zero_le _) (Nat.zero_le _)) (fun zq h' hpo => ?_)))
            obtain ⟨rfl, F2, rfl, w1, w2, w3⟩ := hpo
            refine And.intro ?_ ⟨Or.inr rfl, Nat.le_refl _, Nat.le_refl _⟩
            have eX : y_new a m S.2.1 (S.1 0 0 0) (S.1 1 0 0) (S.1 2 0 0) (9 + S.1 2 0 0) (y_nxt a m q) = .inr (va_up S.2.1 (9 + S.1 2 0 0) (y_lt a m (y_nxt a m q)), y_nxt a m (y_nxt a m q)) := (if_pos e).trans (if_neg (by rw [et]; decide))
            rw [hPo, if_neg c, eX]
            exact ⟨rfl, F2, rfl, x_f5_t u1 w1, w3⟩
          · have c2 : ¬ y_oi (y_fd (g 502) (y_lt a m (y_nxt a m q)) 65 (S.1 2 0 0) 0) = -1 := c2
            rw [y_oi_c (y_NRm_9 hS.2.2.2 _) (by omega), Bool.not_eq_false] at c2
            exact bad (by unfold y_tkn; rw [c0, c1, c2]; rfl)
  · have c : f 501 1858 = nI 5 := c
    rw [h2, nI_eq (by omega) (by omega)] at c
    refine Exists.intro _ (And.intro (m_fails (k := 6) hS.1) (And.intro (And.intro (Nat.zero_le _) (Nat.zero_le _)) (fun zq h' hpo => ?_)))
    obtain ⟨rfl, F1, rfl, u1, u2⟩ := hpo
    refine And.intro ?_ ⟨Or.inl rfl, Nat.le_refl _, Nat.le_refl _⟩
    rw [hPo, if_pos c]
    exact ⟨rfl, F1, rfl, u1, u2⟩
end C88
