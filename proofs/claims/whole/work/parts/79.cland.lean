/-! the class reads a LAND -/
theorem v_CA_fr {f F : Nat → Nat → Int32} {g G : Nat → Nat → Int64} {L : Nat} {v : xV} (h : v_CA f g L v) (hf : ∀ k, L ≤ k → k ≤ L + 9 → F k = f k) (hg : G L = g L) : v_CA F G L v :=
  ⟨fun c i j hv => by rw [hf _ (v_al_cell L hv).1 (v_al_cell L hv).2]; exact h.1 c i j hv, by rw [hg]; exact h.2.1, by rw [hg]; exact h.2.2⟩
theorem v_CA_set {f : Nat → Nat → Int32} {g : Nat → Nat → Int64} {L : Nat} {v vp : xV} (h : v_CA f g L v) (hm : ∀ c i j, v_all v c i j → v_all vp c i j) (hK : vp 0 0 0 ≤ 5) (hG : vp 1 0 0 ≤ 6) {c i j x : Nat} (hv : v_all vp c i j) (hc : 3 ≤ c) : v_CA (x_up f (v_cell L c) (v_pl c i j) (nI x)) g L (v_set v c i j x) := by
  refine ⟨fun c' i' j' hv' => ?_, ?_, ?_⟩
  · have hv2 := (v_al_set hc).mp hv'
    by_cases e : c' = c ∧ i' = i ∧ j' = j
    · obtain ⟨rfl, rfl, rfl⟩ := e
      rw [v_set_s, x_up_s]
    · rw [v_set_n e]
      by_cases e1 : v_cell L c' = v_cell L c
      · rw [e1]
        by_cases e2 : v_pl c' i' j' = v_pl c i j
        · exact absurd (v_al_inj hK hG hv (hm _ _ _ hv2) e1.symm e2.symm) e
        · rw [x_up_j e2, ← e1]
          exact h.1 c' i' j' hv2
      · rw [x_up_k e1]
        exact h.1 c' i' j' hv2
  · have e := v_all_le hv
    rw [v_set_c (by omega)]
    exact h.2.1
  · have e := v_all_le hv
    rw [v_set_c (by omega)]
    exact h.2.2
theorem v_al_up {v : xV} {s c i j : Nat} (hs : s ≤ 2) (h : v_all v c i j) : v_all (v_set v s 0 0 (v s 0 0 + 1)) c i j := by
  unfold v_all at h ⊢
  have e0 : v 0 0 0 ≤ v_set v s 0 0 (v s 0 0 + 1) 0 0 0 := by
    by_cases e : s = 0
    · subst e
      rw [v_set_s]
      omega
    · rw [v_set_c (Ne.symm e)]
      omega
  have e1 : v 1 0 0 ≤ v_set v s 0 0 (v s 0 0 + 1) 1 0 0 := by
    by_cases e : s = 1
    · subst e
      rw [v_set_s]
      omega
    · rw [v_set_c (Ne.symm e)]
      omega
  have e2 : v 2 0 0 ≤ v_set v s 0 0 (v s 0 0 + 1) 2 0 0 := by
    by_cases e : s = 2
    · subst e
      rw [v_set_s]
      omega
    · rw [v_set_c (Ne.symm e)]
      omega
  repeat' split at h
  all_goals (repeat' split)
  all_goals omega
theorem v_CA_more {f : Nat → Nat → Int32} {g : Nat → Nat → Int64} {L : Nat} {v : xV} (h : v_CA f g L v) {s : Nat} (hs : s ≤ 2) (hK : v 0 0 0 ≤ 4) (hG : v 1 0 0 ≤ 5) (hn : ∀ c, ((s = 0 ∧ c = 9) ∨ (s = 1 ∧ (c = 10 ∨ c = 11)) ∨ (s = 2 ∧ c = 12)) → f (v_cell L c) (v_pl c (v s 0 0) 0) = nI (v c (v s 0 0) 0)) : v_CA (x_up f L s (nI (v s 0 0 + 1))) g L (v_set v s 0 0 (v s 0 0 + 1)) := by
  have cs : v_cell L s = L := if_pos hs
  have ps : v_pl s 0 0 = s := if_pos hs
  have hK' : v_set v s 0 0 (v s 0 0 + 1) 0 0 0 ≤ 5 := by
    by_cases e : s = 0
    · subst e
      rw [v_set_s]
      omega
    · rw [v_set_c (Ne.symm e)]
      omega
  have hG' : v_set v s 0 0 (v s 0 0 + 1) 1 0 0 ≤ 6 := by
    by_cases e : s = 1
    · subst e
      rw [v_set_s]
      omega
    · rw [v_set_c (Ne.symm e)]
      omega
  have hsv : v_all (v_set v s 0 0 (v s 0 0 + 1)) s 0 0 := by
    unfold v_all
    rw [if_pos (by omega)]
    exact ⟨rfl, rfl⟩
  refine ⟨fun c i j hv => ?_, ?_, ?_⟩
  · by_cases e : c = s ∧ i = 0 ∧ j = 0
    · obtain ⟨rfl, rfl, rfl⟩ := e
      rw [v_set_s, cs, ps, x_up_s]
    · rw [v_set_n e]
      have old : f (v_cell L c) (v_pl c i j) = nI (v c i j) := by
        rcases v_al_more hs hv with h1 | ⟨rfl, rfl, h1⟩
        · exact h.1 c i j h1
        · exact hn c h1
      by_cases e1 : v_cell L c = L
      · rw [e1]
        by_cases e2 : v_pl c i j = s
        · exact absurd (v_al_inj hK' hG' hsv hv (cs.trans e1.symm) (ps.trans e2.symm)) e
        · rw [x_up_j e2]
          rw [e1] at old
          exact old
      · rw [x_up_k e1]
        exact old
  · rw [v_set_c (by omega)]
    exact h.2.1
  · rw [v_set_c (by omega)]
    exact h.2.2
theorem y_NR_up {G N : Nat → Int64} {v v' : xV} {p : Nat} {l : Int64} (h : y_NR G v N) (h0 : ∀ i, i < v' 0 0 0 → i < v 0 0 0 ∨ i = p) (h1 : ∀ i, i < v' 1 0 0 → i < v 1 0 0 ∨ 4 + i = p) (h2 : ∀ i, i < v' 2 0 0 → i < v 2 0 0 ∨ 9 + i = p) : y_NR (va_up G p l) v' (va_up N p l) := by
  have key : ∀ k, (k ≠ p → G k = N k) → va_up G p l k = va_up N p l k := by
    intro k hk
    by_cases e : k = p
    · rw [e, x_us, x_us]
    · rw [x_un e, x_un e]
      exact hk e
  refine ⟨fun i hi => key _ (fun e => ?_), fun i hi => key _ (fun e => ?_), fun i hi => key _ (fun e => ?_)⟩
  · rcases h0 i hi with w | w
    · exact h.1 i w
    · exact absurd w e
  · rcases h1 i hi with w | w
    · exact h.2.1 i w
    · exact absurd w e
  · rcases h2 i hi with w | w
    · exact h.2.2 i w
    · exact absurd w e
theorem y_NR_v {G N : Nat → Int64} {v v' : xV} (h : y_NR G v N) (h0 : v' 0 0 0 = v 0 0 0) (h1 : v' 1 0 0 = v 1 0 0) (h2 : v' 2 0 0 = v 2 0 0) : y_NR G v' N := by
  unfold y_NR
  rw [h0, h1, h2]
  exact h
def x_LS (L : Nat) (a : Nat → Int32) (m : Nat) (S : xL) (q : Nat) (F : Nat → Nat → Int32) (G : Nat → Nat → Int64) : Prop := x_RC a m q F G ∧ v_CA F G L S.1 ∧ y_NR (G (L + 2)) S.1 S.2.1 ∧ ∀ i, i < 3 → F 601 i = x_bo (S.2.2 i)
def x_fL (L : Nat) (f : Nat → Nat → Int32) (g : Nat → Nat → Int64) (F : Nat → Nat → Int32) (G : Nat → Nat → Int64) : Prop := (∀ c, c ≠ 10 → c ≠ 601 → ¬ (L ≤ c ∧ c ≤ L + 9) → F c = f c) ∧ ∀ c, c ≠ 10 → ¬ (L ≤ c ∧ c ≤ L + 9) → G c = g c
def x_PLd (L : Nat) (a : Nat → Int32) (m : Nat) (f : Nat → Nat → Int32) (g : Nat → Nat → Int64) (ρ : Nat → Nat → Option Nat) (dm : List Nat) (n : Nat) (X : xF (xL × Nat)) (z : Option Value) (h' : xH) : Prop := match X with
  | .inl e => z = some (.int 0) ∧ ∃ F G, h' = (F, G, ρ, dm, n) ∧ x_fL L f g F G ∧ x_FL F e ∧ ∃ v', v_C F G L v' ∧ v_B v'
  | .inr w => z = some (.int 1) ∧ ∃ F G, h' = (F, G, ρ, dm, n) ∧ x_fL L f g F G ∧ x_LS L a m w.1 w.2 F G
section C79
variable {f : Nat → Nat → Int32} {g : Nat → Nat → Int64} {r t : Nat} {dm : List Nat} {n d L : Nat} {v : xV} {a : Nat → Int32} {m q : Nat} {N : Nat → Int64} {S : xL} {ρ : Nat → Nat → Option Nat} {X : xF (xL × Nat)} {z : Option Value} {h' : xH} {e : Nat × Nat} {w : xL × Nat} {F : Nat → Nat → Int32} {G : Nat → Nat → Int64}
theorem x_fL_r : x_fL L f g f g := ⟨fun _ _ _ _ => rfl, fun _ _ _ => rfl⟩
theorem x_fL_t {F2 : Nat → Nat → Int32} {G2 : Nat → Nat → Int64} (h1 : x_fL L f g F G) (h2 : x_fL L F G F2 G2) : x_fL L f g F2 G2 := ⟨fun c c1 c2 c3 => (h2.1 c c1 c2 c3).trans (h1.1 c c1 c2 c3), fun c c1 c3 => (h2.2 c c1 c3).trans (h1.2 c c1 c3)⟩
theorem x_fL_10 (h : x_f10 f g F G) : x_fL L f g F G := ⟨fun c c1 _ _ => h.1 c c1, fun c c1 _ => h.2 c c1⟩
theorem x_fL_up {c i : Nat} {x : Int32} (hc : c = 601 ∨ (L ≤ c ∧ c ≤ L + 9)) : x_fL L f g (x_up f c i x) g := ⟨fun k k1 k2 k3 => x_up_k (fun e => by subst e; rcases hc with h | h; exact k2 h; exact k3 h), fun _ _ _ => rfl⟩
theorem x_fL_gp {c i : Nat} {x : Int64} (hc : L ≤ c ∧ c ≤ L + 9) : x_fL L f g f (x_up g c i x) := ⟨fun _ _ _ _ => rfl, fun k k1 k3 => x_up_k (fun e => by subst e; exact k3 hc)⟩
theorem x_PLd_l (hX : X = .inl e) (h1 : x_fL L f g F G) (h2 : x_FL F e) (h3 : v_CA F G L v) (h4 : v_BA v) : x_PLd L a m f g ρ dm n X (some (.int 0)) (F, G, ρ, dm, n) := by
  subst hX
  exact ⟨rfl, F, G, rfl, h1, h2, v, v_CA_C h4 h3, v_BA_B h4⟩
theorem x_PLd_r (hX : X = .inr w) (h1 : x_fL L f g F G) (h2 : x_LS L a m w.1 w.2 F G) : x_PLd L a m f g ρ dm n X (some (.int 1)) (F, G, ρ, dm, n) := by
  subst hX
  exact ⟨rfl, F, G, rfl, h1, h2⟩
theorem v_CA_10 (hL : L = 12 ∨ L = 22) (h : x_f10 f g F G) (hv : v_CA f g L v) : v_CA F G L v := v_CA_fr hv (fun k k1 _ => h.1 k (by omega)) (h.2 L (by omega))
theorem x_LS_10 {q2 : Nat} (hL : L = 12 ∨ L = 22) (hS : x_LS L a m S q f g) (h : x_f10 f g F G) (hR : x_RC a m q2 F G) : x_LS L a m S q2 F G := ⟨hR, v_CA_10 hL h hS.2.1, by rw [h.2 (L + 2) (by omega)]; exact hS.2.2.1, fun i hi => by rw [h.1 601 (by decide)]; exact hS.2.2.2 i hi⟩
theorem x_bo_t {b : Bool} : x_bo b = 0 ↔ b = false := by cases b <;> decide
theorem c_readRule_22_0 (hT : y_TP a m) (hB : v_BA S.1) (hS : x_LS 22 a m S q f g) (hw : y_sa a m q = 1) : x_Ct 37 (d + 3) [.ref 600, .int 0] (f, g, x_HR 12 t, dm, n) (x_PLd 22 a m f g (x_HR 12 t) dm n (y_rule a m 0 S q)) := by
  obtain ⟨Po, hPo⟩ : ∃ Po : Option Value → xH → Prop, Po = x_PLd 22 a m f g (x_HR 12 t) dm n (y_rule a m 0 S q) := ⟨_, rfl⟩
  rw [← hPo]
  have hL : (22 : Nat) = 12 ∨ (22 : Nat) = 22 := by decide
  have ht := hS.2.2.2 0 (by decide)
  refine x_Ct_w (by decide) (Nat.le_of_ble_eq_true rfl) ok37 [] 6 ?_
  refine And.intro (x_ix_nI (j := 0) (by decide) (by decide)) ?_
  refine And.intro (fun c => ?_) (fun c => ?_)
  · have c : f 601 0 = 0 := c
    rw [ht, x_bo_t] at c
    refine Exists.intro _ (And.intro (c_adv hT hS.1 (by rw [hw]; decide) (by rw [hw]; decide)) (And.intro (And.intro (Nat.zero_le _) (Nat.zero_le _)) (fun zq h' hpo => ?_)))
    obtain ⟨rfl, F1, G1, rfl, u1, -, u3⟩ := hpo
    have s1 := x_LS_10 hL hS u1 u3
    refine And.intro (x_ix_nI (j := 0) (by decide) (by decide)) ?_
    refine And.intro (x_ix_nI (j := 0) (by decide) (by decide)) ?_
    refine Exists.intro _ (And.intro (c_takeNumber (lo := 10) (hi := 9999) (by decide) (by decide) hT u3) (And.intro (And.intro (Nat.zero_le _) (Nat.zero_le _)) (fun zq h' hpo => ?_)))
    cases e1 : y_nbr a m 10 9999 (y_nxt a m q) with
    | inl e =>
      obtain ⟨rfl, F2, G2, rfl, w1, w2⟩ := x_PT_l e1 hpo
      refine And.intro (fun c => absurd rfl c) (fun _ => ?_)
      refine And.intro ?_ ⟨Or.inl rfl, Nat.le_refl _, Nat.le_refl _⟩
      rw [hPo]
      refine x_PLd_l ?_ (x_fL_t (x_fL_10 u1) (x_fL_10 w1)) w2 (v_CA_10 hL w1 s1.2.1) hB
      unfold y_rule
      rw [if_neg (by rw [c]; decide)]
      show y_bd (y_nbr a m 10 9999 (y_nxt a m q)) _ = _
      rw [e1]
      rfl
    | inr x =>
      obtain ⟨rfl, F2, G2, rfl, w1, w2, w3⟩ := x_PT_r e1 hpo
      have s2 := x_LS_10 hL s1 w1 w2
      have k2 := y_nbr_gt e1
      refine And.intro (fun _ => ?_) (fun c => absurd (show (1 : Int32) = 0 from c) (by decide))
      refine And.intro (x_ix_nI (j := 0) (by decide) (by decide)) ?_
      refine And.intro (x_ix_nI (j := 0) (by decide) (by decide)) ?_
      obtain ⟨F3, hF3⟩ : ∃ F3, F3 = x_up (x_up F2 601 0 1) 23 0 (F2 10 9) := ⟨_, rfl⟩
      have hR3 : x_RC a m x.2 F3 G2 := by rw [hF3]; exact s2.1
      have f3 : x_fL 22 F2 G2 F3 G2 := by
        rw [hF3]
        exact x_fL_t (x_fL_up (Or.inl rfl)) (x_fL_up (Or.inr (by decide)))
      have hB3 : v_BA (v_set S.1 (3 + 0) 0 0 x.1) := v_BA_set hB (by decide) (by decide) (by decide) (by decide) (by decide) (by decide) k2.2.1 k2.2.2
      have c3 : v_CA F3 G2 22 (v_set S.1 (3 + 0) 0 0 x.1) := by
        rw [hF3, w3]
        exact v_CA_set (v_CA_fr s2.2.1 (fun k k1 k2 => x_up_k (by omega)) rfl) (fun _ _ _ h => h) (Nat.le_trans (v_BA_K hB) (by decide)) (Nat.le_trans (v_BA_G hB) (by decide)) (c := 3 + 0) (i := 0) (j := 0) ⟨rfl, rfl⟩ (by decide)
      have st : x_LS 22 a m (v_set S.1 (3 + 0) 0 0 x.1, S.2.1, fun j => if j = 0 then true else S.2.2 j) x.2 F3 G2 := by
        refine ⟨hR3, c3, y_NR_v s2.2.2.1 (show v_set S.1 (3 + 0) 0 0 x.1 0 0 0 = S.1 0 0 0 from v_set_c (by decide)) (show v_set S.1 (3 + 0) 0 0 x.1 1 0 0 = S.1 1 0 0 from v_set_c (by decide)) (show v_set S.1 (3 + 0) 0 0 x.1 2 0 0 = S.1 2 0 0 from v_set_c (by decide)), fun i hi => ?_⟩
        rw [hF3]
        by_cases e : i = 0
        · rw [e]
          show x_up (x_up F2 601 0 1) 23 0 (F2 10 9) 601 0 = x_bo (if 0 = 0 then true else S.2.2 0)
          rw [if_pos rfl]
          exact (congrFun (x_up_k (by decide)) _).trans (x_up_s _ _ _ _)
        · show x_up (x_up F2 601 0 1) 23 0 (F2 10 9) 601 i = x_bo (if i = 0 then true else S.2.2 i)
          rw [if_neg e]
          exact (congrFun (x_up_k (by decide)) _).trans ((x_up_j e).trans (s2.2.2.2 i hi))
      show ∃ P, x_Ct 86 (d + 2) [.ref 10, .int 59] (x_up (x_up F2 601 0 1) 23 0 (F2 10 9), G2, x_HR 12 t, dm, n) P ∧ _
      rw [← hF3]
      refine Exists.intro _ (And.intro (c_takeSign (c := 59) hT hR3 (by decide) (by decide)) (And.intro (And.intro (Nat.zero_le _) (Nat.zero_le _)) (fun zq h' hpo => ?_)))
      cases e2 : y_sgn a m 59 x.2 with
      | inl e =>
        obtain ⟨rfl, F4, G4, rfl, p1, p2⟩ := x_PT_l e2 hpo
        refine And.intro ?_ ⟨Or.inl rfl, Nat.le_refl _, Nat.le_refl _⟩
        rw [hPo]
        refine x_PLd_l ?_ (x_fL_t (x_fL_t (x_fL_10 u1) (x_fL_10 w1)) (x_fL_t f3 (x_fL_10 p1))) p2 (v_CA_10 hL p1 c3) hB3
        unfold y_rule
        rw [if_neg (by rw [c]; decide)]
        show y_bd (y_nbr a m 10 9999 (y_nxt a m q)) _ = _
        rw [e1]
        show y_bd (y_sgn a m 59 x.2) _ = _
        rw [e2]
        rfl
      | inr q4 =>
        obtain ⟨rfl, F4, G4, rfl, p1, p2⟩ := x_PT_r e2 hpo
        refine And.intro ?_ ⟨Or.inr rfl, Nat.le_refl _, Nat.le_refl _⟩
        rw [hPo]
        refine x_PLd_r (w := ((v_set S.1 (3 + 0) 0 0 x.1, S.2.1, fun j => if j = 0 then true else S.2.2 j), q4)) ?_ (x_fL_t (x_fL_t (x_fL_10 u1) (x_fL_10 w1)) (x_fL_t f3 (x_fL_10 p1))) (x_LS_10 hL st p1 p2.1)
        unfold y_rule
        rw [if_neg (by rw [c]; decide)]
        show y_bd (y_nbr a m 10 9999 (y_nxt a m q)) _ = _
        rw [e1]
        show y_bd (y_sgn a m 59 x.2) _ = _
        rw [e2]
        rfl
  · have c : ¬ f 601 0 = 0 := c
    rw [ht, x_bo_t, Bool.not_eq_false] at c
    refine Exists.intro _ (And.intro (c_fail (k := 5) hS.1) (And.intro (And.intro (Nat.zero_le _) (Nat.zero_le _)) (fun zq h' hpo => ?_)))
    obtain ⟨rfl, F1, rfl, u1, u2⟩ := hpo
    refine And.intro ?_ ⟨Or.inl rfl, Nat.le_refl _, Nat.le_refl _⟩
    rw [hPo]
    exact x_PLd_l (if_pos c) (x_fL_10 u1) u2 (v_CA_10 hL u1 hS.2.1) hB
theorem c_readRule_22_1 (hT : y_TP a m) (hB : v_BA S.1) (hS : x_LS 22 a m S q f g) (hw : y_sa a m q = 1) : x_Ct 37 (d + 3) [.ref 600, .int 1] (f, g, x_HR 12 t, dm, n) (x_PLd 22 a m f g (x_HR 12 t) dm n (y_rule a m 1 S q)) := by
  obtain ⟨Po, hPo⟩ : ∃ Po : Option Value → xH → Prop, Po = x_PLd 22 a m f g (x_HR 12 t) dm n (y_rule a m 1 S q) := ⟨_, rfl⟩
  rw [← hPo]
  have hL : (22 : Nat) = 12 ∨ (22 : Nat) = 22 := by decide
  have ht := hS.2.2.2 1 (by decide)
  refine x_Ct_w (by decide) (Nat.le_of_ble_eq_true rfl) ok37 [] 6 ?_
  refine And.intro (x_ix_nI (j := 1) (by decide) (by decide)) ?_
  refine And.intro (fun c => ?_) (fun c => ?_)
  · have c : f 601 1 = 0 := c
    rw [ht, x_bo_t] at c
    refine Exists.intro _ (And.intro (c_adv hT hS.1 (by rw [hw]; decide) (by rw [hw]; decide)) (And.intro (And.intro (Nat.zero_le _) (Nat.zero_le _)) (fun zq h' hpo => ?_)))
    obtain ⟨rfl, F1, G1, rfl, u1, -, u3⟩ := hpo
    have s1 := x_LS_10 hL hS u1 u3
    refine And.intro (x_ix_nI (j := 1) (by decide) (by decide)) ?_
    refine And.intro (x_ix_nI (j := 1) (by decide) (by decide)) ?_
    refine Exists.intro _ (And.intro (c_takeNumber (lo := 0) (hi := 50) (by decide) (by decide) hT u3) (And.intro (And.intro (Nat.zero_le _) (Nat.zero_le _)) (fun zq h' hpo => ?_)))
    cases e1 : y_nbr a m 0 50 (y_nxt a m q) with
    | inl e =>
      obtain ⟨rfl, F2, G2, rfl, w1, w2⟩ := x_PT_l e1 hpo
      refine And.intro (fun c => absurd rfl c) (fun _ => ?_)
      refine And.intro ?_ ⟨Or.inl rfl, Nat.le_refl _, Nat.le_refl _⟩
      rw [hPo]
      refine x_PLd_l ?_ (x_fL_t (x_fL_10 u1) (x_fL_10 w1)) w2 (v_CA_10 hL w1 s1.2.1) hB
      unfold y_rule
      rw [if_neg (by rw [c]; decide)]
      show y_bd (y_nbr a m 0 50 (y_nxt a m q)) _ = _
      rw [e1]
      rfl
    | inr x =>
      obtain ⟨rfl, F2, G2, rfl, w1, w2, w3⟩ := x_PT_r e1 hpo
      have s2 := x_LS_10 hL s1 w1 w2
      have k2 := y_nbr_gt e1
      refine And.intro (fun _ => ?_) (fun c => absurd (show (1 : Int32) = 0 from c) (by decide))
      refine And.intro (x_ix_nI (j := 1) (by decide) (by decide)) ?_
      refine And.intro (x_ix_nI (j := 1) (by decide) (by decide)) ?_
      obtain ⟨F3, hF3⟩ : ∃ F3, F3 = x_up (x_up F2 601 1 1) 23 1 (F2 10 9) := ⟨_, rfl⟩
      have hR3 : x_RC a m x.2 F3 G2 := by rw [hF3]; exact s2.1
      have f3 : x_fL 22 F2 G2 F3 G2 := by
        rw [hF3]
        exact x_fL_t (x_fL_up (Or.inl rfl)) (x_fL_up (Or.inr (by decide)))
      have hB3 : v_BA (v_set S.1 (3 + 1) 0 0 x.1) := v_BA_set hB (by decide) (by decide) (by decide) (by decide) (by decide) (by decide) k2.2.1 k2.2.2
      have c3 : v_CA F3 G2 22 (v_set S.1 (3 + 1) 0 0 x.1) := by
        rw [hF3, w3]
        exact v_CA_set (v_CA_fr s2.2.1 (fun k k1 k2 => x_up_k (by omega)) rfl) (fun _ _ _ h => h) (Nat.le_trans (v_BA_K hB) (by decide)) (Nat.le_trans (v_BA_G hB) (by decide)) (c := 3 + 1) (i := 0) (j := 0) ⟨rfl, rfl⟩ (by decide)
      have st : x_LS 22 a m (v_set S.1 (3 + 1) 0 0 x.1, S.2.1, fun j => if j = 1 then true else S.2.2 j) x.2 F3 G2 := by
        refine ⟨hR3, c3, y_NR_v s2.2.2.1 (show v_set S.1 (3 + 1) 0 0 x.1 0 0 0 = S.1 0 0 0 from v_set_c (by decide)) (show v_set S.1 (3 + 1) 0 0 x.1 1 0 0 = S.1 1 0 0 from v_set_c (by decide)) (show v_set S.1 (3 + 1) 0 0 x.1 2 0 0 = S.1 2 0 0 from v_set_c (by decide)), fun i hi => ?_⟩
        rw [hF3]
        by_cases e : i = 1
        · rw [e]
          show x_up (x_up F2 601 1 1) 23 1 (F2 10 9) 601 1 = x_bo (if 1 = 1 then true else S.2.2 1)
          rw [if_pos rfl]
          exact (congrFun (x_up_k (by decide)) _).trans (x_up_s _ _ _ _)
        · show x_up (x_up F2 601 1 1) 23 1 (F2 10 9) 601 i = x_bo (if i = 1 then true else S.2.2 i)
          rw [if_neg e]
          exact (congrFun (x_up_k (by decide)) _).trans ((x_up_j e).trans (s2.2.2.2 i hi))
      show ∃ P, x_Ct 86 (d + 2) [.ref 10, .int 59] (x_up (x_up F2 601 1 1) 23 1 (F2 10 9), G2, x_HR 12 t, dm, n) P ∧ _
      rw [← hF3]
      refine Exists.intro _ (And.intro (c_takeSign (c := 59) hT hR3 (by decide) (by decide)) (And.intro (And.intro (Nat.zero_le _) (Nat.zero_le _)) (fun zq h' hpo => ?_)))
      cases e2 : y_sgn a m 59 x.2 with
      | inl e =>
        obtain ⟨rfl, F4, G4, rfl, p1, p2⟩ := x_PT_l e2 hpo
        refine And.intro ?_ ⟨Or.inl rfl, Nat.le_refl _, Nat.le_refl _⟩
        rw [hPo]
        refine x_PLd_l ?_ (x_fL_t (x_fL_t (x_fL_10 u1) (x_fL_10 w1)) (x_fL_t f3 (x_fL_10 p1))) p2 (v_CA_10 hL p1 c3) hB3
        unfold y_rule
        rw [if_neg (by rw [c]; decide)]
        show y_bd (y_nbr a m 0 50 (y_nxt a m q)) _ = _
        rw [e1]
        show y_bd (y_sgn a m 59 x.2) _ = _
        rw [e2]
        rfl
      | inr q4 =>
        obtain ⟨rfl, F4, G4, rfl, p1, p2⟩ := x_PT_r e2 hpo
        refine And.intro ?_ ⟨Or.inr rfl, Nat.le_refl _, Nat.le_refl _⟩
        rw [hPo]
        refine x_PLd_r (w := ((v_set S.1 (3 + 1) 0 0 x.1, S.2.1, fun j => if j = 1 then true else S.2.2 j), q4)) ?_ (x_fL_t (x_fL_t (x_fL_10 u1) (x_fL_10 w1)) (x_fL_t f3 (x_fL_10 p1))) (x_LS_10 hL st p1 p2.1)
        unfold y_rule
        rw [if_neg (by rw [c]; decide)]
        show y_bd (y_nbr a m 0 50 (y_nxt a m q)) _ = _
        rw [e1]
        show y_bd (y_sgn a m 59 x.2) _ = _
        rw [e2]
        rfl
  · have c : ¬ f 601 1 = 0 := c
    rw [ht, x_bo_t, Bool.not_eq_false] at c
    refine Exists.intro _ (And.intro (c_fail (k := 5) hS.1) (And.intro (And.intro (Nat.zero_le _) (Nat.zero_le _)) (fun zq h' hpo => ?_)))
    obtain ⟨rfl, F1, rfl, u1, u2⟩ := hpo
    refine And.intro ?_ ⟨Or.inl rfl, Nat.le_refl _, Nat.le_refl _⟩
    rw [hPo]
    exact x_PLd_l (if_pos c) (x_fL_10 u1) u2 (v_CA_10 hL u1 hS.2.1) hB
theorem c_readRule_22_2 (hT : y_TP a m) (hB : v_BA S.1) (hS : x_LS 22 a m S q f g) (hw : y_sa a m q = 1) : x_Ct 37 (d + 3) [.ref 600, .int 2] (f, g, x_HR 12 t, dm, n) (x_PLd 22 a m f g (x_HR 12 t) dm n (y_rule a m 2 S q)) := by
  obtain ⟨Po, hPo⟩ : ∃ Po : Option Value → xH → Prop, Po = x_PLd 22 a m f g (x_HR 12 t) dm n (y_rule a m 2 S q) := ⟨_, rfl⟩
  rw [← hPo]
  have hL : (22 : Nat) = 12 ∨ (22 : Nat) = 22 := by decide
  have ht := hS.2.2.2 2 (by decide)
  refine x_Ct_w (by decide) (Nat.le_of_ble_eq_true rfl) ok37 [] 6 ?_
  refine And.intro (x_ix_nI (j := 2) (by decide) (by decide)) ?_
  refine And.intro (fun c => ?_) (fun c => ?_)
  · have c : f 601 2 = 0 := c
    rw [ht, x_bo_t] at c
    refine Exists.intro _ (And.intro (c_adv hT hS.1 (by rw [hw]; decide) (by rw [hw]; decide)) (And.intro (And.intro (Nat.zero_le _) (Nat.zero_le _)) (fun zq h' hpo => ?_)))
    obtain ⟨rfl, F1, G1, rfl, u1, -, u3⟩ := hpo
    have s1 := x_LS_10 hL hS u1 u3
    refine And.intro (x_ix_nI (j := 2) (by decide) (by decide)) ?_
    refine And.intro (x_ix_nI (j := 2) (by decide) (by decide)) ?_
    refine Exists.intro _ (And.intro (c_takeNumber (lo := 0) (hi := 999) (by decide) (by decide) hT u3) (And.intro (And.intro (Nat.zero_le _) (Nat.zero_le _)) (fun zq h' hpo => ?_)))
    cases e1 : y_nbr a m 0 999 (y_nxt a m q) with
    | inl e =>
      obtain ⟨rfl, F2, G2, rfl, w1, w2⟩ := x_PT_l e1 hpo
      refine And.intro (fun c => absurd rfl c) (fun _ => ?_)
      refine And.intro ?_ ⟨Or.inl rfl, Nat.le_refl _, Nat.le_refl _⟩
      rw [hPo]
      refine x_PLd_l ?_ (x_fL_t (x_fL_10 u1) (x_fL_10 w1)) w2 (v_CA_10 hL w1 s1.2.1) hB
      unfold y_rule
      rw [if_neg (by rw [c]; decide)]
      show y_bd (y_nbr a m 0 999 (y_nxt a m q)) _ = _
      rw [e1]
      rfl
    | inr x =>
      obtain ⟨rfl, F2, G2, rfl, w1, w2, w3⟩ := x_PT_r e1 hpo
      have s2 := x_LS_10 hL s1 w1 w2
      have k2 := y_nbr_gt e1
      refine And.intro (fun _ => ?_) (fun c => absurd (show (1 : Int32) = 0 from c) (by decide))
      refine And.intro (x_ix_nI (j := 2) (by decide) (by decide)) ?_
      refine And.intro (x_ix_nI (j := 2) (by decide) (by decide)) ?_
      obtain ⟨F3, hF3⟩ : ∃ F3, F3 = x_up (x_up F2 601 2 1) 23 2 (F2 10 9) := ⟨_, rfl⟩
      have hR3 : x_RC a m x.2 F3 G2 := by rw [hF3]; exact s2.1
      have f3 : x_fL 22 F2 G2 F3 G2 := by
        rw [hF3]
        exact x_fL_t (x_fL_up (Or.inl rfl)) (x_fL_up (Or.inr (by decide)))
      have hB3 : v_BA (v_set S.1 (3 + 2) 0 0 x.1) := v_BA_set hB (by decide) (by decide) (by decide) (by decide) (by decide) (by decide) k2.2.1 k2.2.2
      have c3 : v_CA F3 G2 22 (v_set S.1 (3 + 2) 0 0 x.1) := by
        rw [hF3, w3]
        exact v_CA_set (v_CA_fr s2.2.1 (fun k k1 k2 => x_up_k (by omega)) rfl) (fun _ _ _ h => h) (Nat.le_trans (v_BA_K hB) (by decide)) (Nat.le_trans (v_BA_G hB) (by decide)) (c := 3 + 2) (i := 0) (j := 0) ⟨rfl, rfl⟩ (by decide)
      have st : x_LS 22 a m (v_set S.1 (3 + 2) 0 0 x.1, S.2.1, fun j => if j = 2 then true else S.2.2 j) x.2 F3 G2 := by
        refine ⟨hR3, c3, y_NR_v s2.2.2.1 (show v_set S.1 (3 + 2) 0 0 x.1 0 0 0 = S.1 0 0 0 from v_set_c (by decide)) (show v_set S.1 (3 + 2) 0 0 x.1 1 0 0 = S.1 1 0 0 from v_set_c (by decide)) (show v_set S.1 (3 + 2) 0 0 x.1 2 0 0 = S.1 2 0 0 from v_set_c (by decide)), fun i hi => ?_⟩
        rw [hF3]
        by_cases e : i = 2
        · rw [e]
          show x_up (x_up F2 601 2 1) 23 2 (F2 10 9) 601 2 = x_bo (if 2 = 2 then true else S.2.2 2)
          rw [if_pos rfl]
          exact (congrFun (x_up_k (by decide)) _).trans (x_up_s _ _ _ _)
        · show x_up (x_up F2 601 2 1) 23 2 (F2 10 9) 601 i = x_bo (if i = 2 then true else S.2.2 i)
          rw [if_neg e]
          exact (congrFun (x_up_k (by decide)) _).trans ((x_up_j e).trans (s2.2.2.2 i hi))
      show ∃ P, x_Ct 86 (d + 2) [.ref 10, .int 59] (x_up (x_up F2 601 2 1) 23 2 (F2 10 9), G2, x_HR 12 t, dm, n) P ∧ _
      rw [← hF3]
      refine Exists.intro _ (And.intro (c_takeSign (c := 59) hT hR3 (by decide) (by decide)) (And.intro (And.intro (Nat.zero_le _) (Nat.zero_le _)) (fun zq h' hpo => ?_)))
      cases e2 : y_sgn a m 59 x.2 with
      | inl e =>
        obtain ⟨rfl, F4, G4, rfl, p1, p2⟩ := x_PT_l e2 hpo
        refine And.intro ?_ ⟨Or.inl rfl, Nat.le_refl _, Nat.le_refl _⟩
        rw [hPo]
        refine x_PLd_l ?_ (x_fL_t (x_fL_t (x_fL_10 u1) (x_fL_10 w1)) (x_fL_t f3 (x_fL_10 p1))) p2 (v_CA_10 hL p1 c3) hB3
        unfold y_rule
        rw [if_neg (by rw [c]; decide)]
        show y_bd (y_nbr a m 0 999 (y_nxt a m q)) _ = _
        rw [e1]
        show y_bd (y_sgn a m 59 x.2) _ = _
        rw [e2]
        rfl
      | inr q4 =>
        obtain ⟨rfl, F4, G4, rfl, p1, p2⟩ := x_PT_r e2 hpo
        refine And.intro ?_ ⟨Or.inr rfl, Nat.le_refl _, Nat.le_refl _⟩
        rw [hPo]
        refine x_PLd_r (w := ((v_set S.1 (3 + 2) 0 0 x.1, S.2.1, fun j => if j = 2 then true else S.2.2 j), q4)) ?_ (x_fL_t (x_fL_t (x_fL_10 u1) (x_fL_10 w1)) (x_fL_t f3 (x_fL_10 p1))) (x_LS_10 hL st p1 p2.1)
        unfold y_rule
        rw [if_neg (by rw [c]; decide)]
        show y_bd (y_nbr a m 0 999 (y_nxt a m q)) _ = _
        rw [e1]
        show y_bd (y_sgn a m 59 x.2) _ = _
        rw [e2]
        rfl
  · have c : ¬ f 601 2 = 0 := c
    rw [ht, x_bo_t, Bool.not_eq_false] at c
    refine Exists.intro _ (And.intro (c_fail (k := 5) hS.1) (And.intro (And.intro (Nat.zero_le _) (Nat.zero_le _)) (fun zq h' hpo => ?_)))
    obtain ⟨rfl, F1, rfl, u1, u2⟩ := hpo
    refine And.intro ?_ ⟨Or.inl rfl, Nat.le_refl _, Nat.le_refl _⟩
    rw [hPo]
    exact x_PLd_l (if_pos c) (x_fL_10 u1) u2 (v_CA_10 hL u1 hS.2.1) hB
theorem c_readRule_12_0 (hT : y_TP a m) (hB : v_BA S.1) (hS : x_LS 12 a m S q f g) (hw : y_sa a m q = 1) : x_Ct 37 (d + 3) [.ref 600, .int 0] (f, g, x_HR 22 t, dm, n) (x_PLd 12 a m f g (x_HR 22 t) dm n (y_rule a m 0 S q)) := by
  obtain ⟨Po, hPo⟩ : ∃ Po : Option Value → xH → Prop, Po = x_PLd 12 a m f g (x_HR 22 t) dm n (y_rule a m 0 S q) := ⟨_, rfl⟩
  rw [← hPo]
  have hL : (12 : Nat) = 12 ∨ (12 : Nat) = 22 := by decide
  have ht := hS.2.2.2 0 (by decide)
  refine x_Ct_w (by decide) (Nat.le_of_ble_eq_true rfl) ok37 [] 6 ?_
  refine And.intro (x_ix_nI (j := 0) (by decide) (by decide)) ?_
  refine And.intro (fun c => ?_) (fun c => ?_)
  · have c : f 601 0 = 0 := c
    rw [ht, x_bo_t] at c
    refine Exists.intro _ (And.intro (c_adv hT hS.1 (by rw [hw]; decide) (by rw [hw]; decide)) (And.intro (And.intro (Nat.zero_le _) (Nat.zero_le _)) (fun zq h' hpo => ?_)))
    obtain ⟨rfl, F1, G1, rfl, u1, -, u3⟩ := hpo
    have s1 := x_LS_10 hL hS u1 u3
    refine And.intro (x_ix_nI (j := 0) (by decide) (by decide)) ?_
    refine And.intro (x_ix_nI (j := 0) (by decide) (by decide)) ?_
    refine Exists.intro _ (And.intro (c_takeNumber (lo := 10) (hi := 9999) (by decide) (by decide) hT u3) (And.intro (And.intro (Nat.zero_le _) (Nat.zero_le _)) (fun zq h' hpo => ?_)))
    cases e1 : y_nbr a m 10 9999 (y_nxt a m q) with
    | inl e =>
      obtain ⟨rfl, F2, G2, rfl, w1, w2⟩ := x_PT_l e1 hpo
      refine And.intro (fun c => absurd rfl c) (fun _ => ?_)
      refine And.intro ?_ ⟨Or.inl rfl, Nat.le_refl _, Nat.le_refl _⟩
      rw [hPo]
      refine x_PLd_l ?_ (x_fL_t (x_fL_10 u1) (x_fL_10 w1)) w2 (v_CA_10 hL w1 s1.2.1) hB
      unfold y_rule
      rw [if_neg (by rw [c]; decide)]
      show y_bd (y_nbr a m 10 9999 (y_nxt a m q)) _ = _
      rw [e1]
      rfl
    | inr x =>
      obtain ⟨rfl, F2, G2, rfl, w1, w2, w3⟩ := x_PT_r e1 hpo
      have s2 := x_LS_10 hL s1 w1 w2
      have k2 := y_nbr_gt e1
      refine And.intro (fun _ => ?_) (fun c => absurd (show (1 : Int32) = 0 from c) (by decide))
      refine And.intro (x_ix_nI (j := 0) (by decide) (by decide)) ?_
      refine And.intro (x_ix_nI (j := 0) (by decide) (by decide)) ?_
      obtain ⟨F3, hF3⟩ : ∃ F3, F3 = x_up (x_up F2 601 0 1) 13 0 (F2 10 9) := ⟨_, rfl⟩
      have hR3 : x_RC a m x.2 F3 G2 := by rw [hF3]; exact s2.1
      have f3 : x_fL 12 F2 G2 F3 G2 := by
        rw [hF3]
        exact x_fL_t (x_fL_up (Or.inl rfl)) (x_fL_up (Or.inr (by decide)))
      have hB3 : v_BA (v_set S.1 (3 + 0) 0 0 x.1) := v_BA_set hB (by decide) (by decide) (by decide) (by decide) (by decide) (by decide) k2.2.1 k2.2.2
      have c3 : v_CA F3 G2 12 (v_set S.1 (3 + 0) 0 0 x.1) := by
        rw [hF3, w3]
        exact v_CA_set (v_CA_fr s2.2.1 (fun k k1 k2 => x_up_k (by omega)) rfl) (fun _ _ _ h => h) (Nat.le_trans (v_BA_K hB) (by decide)) (Nat.le_trans (v_BA_G hB) (by decide)) (c := 3 + 0) (i := 0) (j := 0) ⟨rfl, rfl⟩ (by decide)
      have st : x_LS 12 a m (v_set S.1 (3 + 0) 0 0 x.1, S.2.1, fun j => if j = 0 then true else S.2.2 j) x.2 F3 G2 := by
        refine ⟨hR3, c3, y_NR_v s2.2.2.1 (show v_set S.1 (3 + 0) 0 0 x.1 0 0 0 = S.1 0 0 0 from v_set_c (by decide)) (show v_set S.1 (3 + 0) 0 0 x.1 1 0 0 = S.1 1 0 0 from v_set_c (by decide)) (show v_set S.1 (3 + 0) 0 0 x.1 2 0 0 = S.1 2 0 0 from v_set_c (by decide)), fun i hi => ?_⟩
        rw [hF3]
        by_cases e : i = 0
        · rw [e]
          show x_up (x_up F2 601 0 1) 13 0 (F2 10 9) 601 0 = x_bo (if 0 = 0 then true else S.2.2 0)
          rw [if_pos rfl]
          exact (congrFun (x_up_k (by decide)) _).trans (x_up_s _ _ _ _)
        · show x_up (x_up F2 601 0 1) 13 0 (F2 10 9) 601 i = x_bo (if i = 0 then true else S.2.2 i)
          rw [if_neg e]
          exact (congrFun (x_up_k (by decide)) _).trans ((x_up_j e).trans (s2.2.2.2 i hi))
      show ∃ P, x_Ct 86 (d + 2) [.ref 10, .int 59] (x_up (x_up F2 601 0 1) 13 0 (F2 10 9), G2, x_HR 22 t, dm, n) P ∧ _
      rw [← hF3]
      refine Exists.intro _ (And.intro (c_takeSign (c := 59) hT hR3 (by decide) (by decide)) (And.intro (And.intro (Nat.zero_le _) (Nat.zero_le _)) (fun zq h' hpo => ?_)))
      cases e2 : y_sgn a m 59 x.2 with
      | inl e =>
        obtain ⟨rfl, F4, G4, rfl, p1, p2⟩ := x_PT_l e2 hpo
        refine And.intro ?_ ⟨Or.inl rfl, Nat.le_refl _, Nat.le_refl _⟩
        rw [hPo]
        refine x_PLd_l ?_ (x_fL_t (x_fL_t (x_fL_10 u1) (x_fL_10 w1)) (x_fL_t f3 (x_fL_10 p1))) p2 (v_CA_10 hL p1 c3) hB3
        unfold y_rule
        rw [if_neg (by rw [c]; decide)]
        show y_bd (y_nbr a m 10 9999 (y_nxt a m q)) _ = _
        rw [e1]
        show y_bd (y_sgn a m 59 x.2) _ = _
        rw [e2]
        rfl
      | inr q4 =>
        obtain ⟨rfl, F4, G4, rfl, p1, p2⟩ := x_PT_r e2 hpo
        refine And.intro ?_ ⟨Or.inr rfl, Nat.le_refl _, Nat.le_refl _⟩
        rw [hPo]
        refine x_PLd_r (w := ((v_set S.1 (3 + 0) 0 0 x.1, S.2.1, fun j => if j = 0 then true else S.2.2 j), q4)) ?_ (x_fL_t (x_fL_t (x_fL_10 u1) (x_fL_10 w1)) (x_fL_t f3 (x_fL_10 p1))) (x_LS_10 hL st p1 p2.1)
        unfold y_rule
        rw [if_neg (by rw [c]; decide)]
        show y_bd (y_nbr a m 10 9999 (y_nxt a m q)) _ = _
        rw [e1]
        show y_bd (y_sgn a m 59 x.2) _ = _
        rw [e2]
        rfl
  · have c : ¬ f 601 0 = 0 := c
    rw [ht, x_bo_t, Bool.not_eq_false] at c
    refine Exists.intro _ (And.intro (c_fail (k := 5) hS.1) (And.intro (And.intro (Nat.zero_le _) (Nat.zero_le _)) (fun zq h' hpo => ?_)))
    obtain ⟨rfl, F1, rfl, u1, u2⟩ := hpo
    refine And.intro ?_ ⟨Or.inl rfl, Nat.le_refl _, Nat.le_refl _⟩
    rw [hPo]
    exact x_PLd_l (if_pos c) (x_fL_10 u1) u2 (v_CA_10 hL u1 hS.2.1) hB
theorem c_readRule_12_1 (hT : y_TP a m) (hB : v_BA S.1) (hS : x_LS 12 a m S q f g) (hw : y_sa a m q = 1) : x_Ct 37 (d + 3) [.ref 600, .int 1] (f, g, x_HR 22 t, dm, n) (x_PLd 12 a m f g (x_HR 22 t) dm n (y_rule a m 1 S q)) := by
  obtain ⟨Po, hPo⟩ : ∃ Po : Option Value → xH → Prop, Po = x_PLd 12 a m f g (x_HR 22 t) dm n (y_rule a m 1 S q) := ⟨_, rfl⟩
  rw [← hPo]
  have hL : (12 : Nat) = 12 ∨ (12 : Nat) = 22 := by decide
  have ht := hS.2.2.2 1 (by decide)
  refine x_Ct_w (by decide) (Nat.le_of_ble_eq_true rfl) ok37 [] 6 ?_
  refine And.intro (x_ix_nI (j := 1) (by decide) (by decide)) ?_
  refine And.intro (fun c => ?_) (fun c => ?_)
  · have c : f 601 1 = 0 := c
    rw [ht, x_bo_t] at c
    refine Exists.intro _ (And.intro (c_adv hT hS.1 (by rw [hw]; decide) (by rw [hw]; decide)) (And.intro (And.intro (Nat.zero_le _) (Nat.zero_le _)) (fun zq h' hpo => ?_)))
    obtain ⟨rfl, F1, G1, rfl, u1, -, u3⟩ := hpo
    have s1 := x_LS_10 hL hS u1 u3
    refine And.intro (x_ix_nI (j := 1) (by decide) (by decide)) ?_
    refine And.intro (x_ix_nI (j := 1) (by decide) (by decide)) ?_
    refine Exists.intro _ (And.intro (c_takeNumber (lo := 0) (hi := 50) (by decide) (by decide) hT u3) (And.intro (And.intro (Nat.zero_le _) (Nat.zero_le _)) (fun zq h' hpo => ?_)))
    cases e1 : y_nbr a m 0 50 (y_nxt a m q) with
    | inl e =>
      obtain ⟨rfl, F2, G2, rfl, w1, w2⟩ := x_PT_l e1 hpo
      refine And.intro (fun c => absurd rfl c) (fun _ => ?_)
      refine And.intro ?_ ⟨Or.inl rfl, Nat.le_refl _, Nat.le_refl _⟩
      rw [hPo]
      refine x_PLd_l ?_ (x_fL_t (x_fL_10 u1) (x_fL_10 w1)) w2 (v_CA_10 hL w1 s1.2.1) hB
      unfold y_rule
      rw [if_neg (by rw [c]; decide)]
      show y_bd (y_nbr a m 0 50 (y_nxt a m q)) _ = _
      rw [e1]
      rfl
    | inr x =>
      obtain ⟨rfl, F2, G2, rfl, w1, w2, w3⟩ := x_PT_r e1 hpo
      have s2 := x_LS_10 hL s1 w1 w2
      have k2 := y_nbr_gt e1
      refine And.intro (fun _ => ?_) (fun c => absurd (show (1 : Int32) = 0 from c) (by decide))
      refine And.intro (x_ix_nI (j := 1) (by decide) (by decide)) ?_
      refine And.intro (x_ix_nI (j := 1) (by decide) (by decide)) ?_
      obtain ⟨F3, hF3⟩ : ∃ F3, F3 = x_up (x_up F2 601 1 1) 13 1 (F2 10 9) := ⟨_, rfl⟩
      have hR3 : x_RC a m x.2 F3 G2 := by rw [hF3]; exact s2.1
      have f3 : x_fL 12 F2 G2 F3 G2 := by
        rw [hF3]
        exact x_fL_t (x_fL_up (Or.inl rfl)) (x_fL_up (Or.inr (by decide)))
      have hB3 : v_BA (v_set S.1 (3 + 1) 0 0 x.1) := v_BA_set hB (by decide) (by decide) (by decide) (by decide) (by decide) (by decide) k2.2.1 k2.2.2
      have c3 : v_CA F3 G2 12 (v_set S.1 (3 + 1) 0 0 x.1) := by
        rw [hF3, w3]
        exact v_CA_set (v_CA_fr s2.2.1 (fun k k1 k2 => x_up_k (by omega)) rfl) (fun _ _ _ h => h) (Nat.le_trans (v_BA_K hB) (by decide)) (Nat.le_trans (v_BA_G hB) (by decide)) (c := 3 + 1) (i := 0) (j := 0) ⟨rfl, rfl⟩ (by decide)
      have st : x_LS 12 a m (v_set S.1 (3 + 1) 0 0 x.1, S.2.1, fun j => if j = 1 then true else S.2.2 j) x.2 F3 G2 := by
        refine ⟨hR3, c3, y_NR_v s2.2.2.1 (show v_set S.1 (3 + 1) 0 0 x.1 0 0 0 = S.1 0 0 0 from v_set_c (by decide)) (show v_set S.1 (3 + 1) 0 0 x.1 1 0 0 = S.1 1 0 0 from v_set_c (by decide)) (show v_set S.1 (3 + 1) 0 0 x.1 2 0 0 = S.1 2 0 0 from v_set_c (by decide)), fun i hi => ?_⟩
        rw [hF3]
        by_cases e : i = 1
        · rw [e]
          show x_up (x_up F2 601 1 1) 13 1 (F2 10 9) 601 1 = x_bo (if 1 = 1 then true else S.2.2 1)
          rw [if_pos rfl]
          exact (congrFun (x_up_k (by decide)) _).trans (x_up_s _ _ _ _)
        · show x_up (x_up F2 601 1 1) 13 1 (F2 10 9) 601 i = x_bo (if i = 1 then true else S.2.2 i)
          rw [if_neg e]
          exact (congrFun (x_up_k (by decide)) _).trans ((x_up_j e).trans (s2.2.2.2 i hi))
      show ∃ P, x_Ct 86 (d + 2) [.ref 10, .int 59] (x_up (x_up F2 601 1 1) 13 1 (F2 10 9), G2, x_HR 22 t, dm, n) P ∧ _
      rw [← hF3]
      refine Exists.intro _ (And.intro (c_takeSign (c := 59) hT hR3 (by decide) (by decide)) (And.intro (And.intro (Nat.zero_le _) (Nat.zero_le _)) (fun zq h' hpo => ?_)))
      cases e2 : y_sgn a m 59 x.2 with
      | inl e =>
        obtain ⟨rfl, F4, G4, rfl, p1, p2⟩ := x_PT_l e2 hpo
        refine And.intro ?_ ⟨Or.inl rfl, Nat.le_refl _, Nat.le_refl _⟩
        rw [hPo]
        refine x_PLd_l ?_ (x_fL_t (x_fL_t (x_fL_10 u1) (x_fL_10 w1)) (x_fL_t f3 (x_fL_10 p1))) p2 (v_CA_10 hL p1 c3) hB3
        unfold y_rule
        rw [if_neg (by rw [c]; decide)]
        show y_bd (y_nbr a m 0 50 (y_nxt a m q)) _ = _
        rw [e1]
        show y_bd (y_sgn a m 59 x.2) _ = _
        rw [e2]
        rfl
      | inr q4 =>
        obtain ⟨rfl, F4, G4, rfl, p1, p2⟩ := x_PT_r e2 hpo
        refine And.intro ?_ ⟨Or.inr rfl, Nat.le_refl _, Nat.le_refl _⟩
        rw [hPo]
        refine x_PLd_r (w := ((v_set S.1 (3 + 1) 0 0 x.1, S.2.1, fun j => if j = 1 then true else S.2.2 j), q4)) ?_ (x_fL_t (x_fL_t (x_fL_10 u1) (x_fL_10 w1)) (x_fL_t f3 (x_fL_10 p1))) (x_LS_10 hL st p1 p2.1)
        unfold y_rule
        rw [if_neg (by rw [c]; decide)]
        show y_bd (y_nbr a m 0 50 (y_nxt a m q)) _ = _
        rw [e1]
        show y_bd (y_sgn a m 59 x.2) _ = _
        rw [e2]
        rfl
  · have c : ¬ f 601 1 = 0 := c
    rw [ht, x_bo_t, Bool.not_eq_false] at c
    refine Exists.intro _ (And.intro (c_fail (k := 5) hS.1) (And.intro (And.intro (Nat.zero_le _) (Nat.zero_le _)) (fun zq h' hpo => ?_)))
    obtain ⟨rfl, F1, rfl, u1, u2⟩ := hpo
    refine And.intro ?_ ⟨Or.inl rfl, Nat.le_refl _, Nat.le_refl _⟩
    rw [hPo]
    exact x_PLd_l (if_pos c) (x_fL_10 u1) u2 (v_CA_10 hL u1 hS.2.1) hB
theorem c_readRule_12_2 (hT : y_TP a m) (hB : v_BA S.1) (hS : x_LS 12 a m S q f g) (hw : y_sa a m q = 1) : x_Ct 37 (d + 3) [.ref 600, .int 2] (f, g, x_HR 22 t, dm, n) (x_PLd 12 a m f g (x_HR 22 t) dm n (y_rule a m 2 S q)) := by
  obtain ⟨Po, hPo⟩ : ∃ Po : Option Value → xH → Prop, Po = x_PLd 12 a m f g (x_HR 22 t) dm n (y_rule a m 2 S q) := ⟨_, rfl⟩
  rw [← hPo]
  have hL : (12 : Nat) = 12 ∨ (12 : Nat) = 22 := by decide
  have ht := hS.2.2.2 2 (by decide)
  refine x_Ct_w (by decide) (Nat.le_of_ble_eq_true rfl) ok37 [] 6 ?_
  refine And.intro (x_ix_nI (j := 2) (by decide) (by decide)) ?_
  refine And.intro (fun c => ?_) (fun c => ?_)
  · have c : f 601 2 = 0 := c
    rw [ht, x_bo_t] at c
    refine Exists.intro _ (And.intro (c_adv hT hS.1 (by rw [hw]; decide) (by rw [hw]; decide)) (And.intro (And.intro (Nat.zero_le _) (Nat.zero_le _)) (fun zq h' hpo => ?_)))
    obtain ⟨rfl, F1, G1, rfl, u1, -, u3⟩ := hpo
    have s1 := x_LS_10 hL hS u1 u3
    refine And.intro (x_ix_nI (j := 2) (by decide) (by decide)) ?_
    refine And.intro (x_ix_nI (j := 2) (by decide) (by decide)) ?_
    refine Exists.intro _ (And.intro (c_takeNumber (lo := 0) (hi := 999) (by decide) (by decide) hT u3) (And.intro (And.intro (Nat.zero_le _) (Nat.zero_le _)) (fun zq h' hpo => ?_)))
    cases e1 : y_nbr a m 0 999 (y_nxt a m q) with
    | inl e =>
      obtain ⟨rfl, F2, G2, rfl, w1, w2⟩ := x_PT_l e1 hpo
      refine And.intro (fun c => absurd rfl c) (fun _ => ?_)
      refine And.intro ?_ ⟨Or.inl rfl, Nat.le_refl _, Nat.le_refl _⟩
      rw [hPo]
      refine x_PLd_l ?_ (x_fL_t (x_fL_10 u1) (x_fL_10 w1)) w2 (v_CA_10 hL w1 s1.2.1) hB
      unfold y_rule
      rw [if_neg (by rw [c]; decide)]
      show y_bd (y_nbr a m 0 999 (y_nxt a m q)) _ = _
      rw [e1]
      rfl
    | inr x =>
      obtain ⟨rfl, F2, G2, rfl, w1, w2, w3⟩ := x_PT_r e1 hpo
      have s2 := x_LS_10 hL s1 w1 w2
      have k2 := y_nbr_gt e1
      refine And.intro (fun _ => ?_) (fun c => absurd (show (1 : Int32) = 0 from c) (by decide))
      refine And.intro (x_ix_nI (j := 2) (by decide) (by decide)) ?_
      refine And.intro (x_ix_nI (j := 2) (by decide) (by decide)) ?_
      obtain ⟨F3, hF3⟩ : ∃ F3, F3 = x_up (x_up F2 601 2 1) 13 2 (F2 10 9) := ⟨_, rfl⟩
      have hR3 : x_RC a m x.2 F3 G2 := by rw [hF3]; exact s2.1
      have f3 : x_fL 12 F2 G2 F3 G2 := by
        rw [hF3]
        exact x_fL_t (x_fL_up (Or.inl rfl)) (x_fL_up (Or.inr (by decide)))
      have hB3 : v_BA (v_set S.1 (3 + 2) 0 0 x.1) := v_BA_set hB (by decide) (by decide) (by decide) (by decide) (by decide) (by decide) k2.2.1 k2.2.2
      have c3 : v_CA F3 G2 12 (v_set S.1 (3 + 2) 0 0 x.1) := by
        rw [hF3, w3]
        exact v_CA_set (v_CA_fr s2.2.1 (fun k k1 k2 => x_up_k (by omega)) rfl) (fun _ _ _ h => h) (Nat.le_trans (v_BA_K hB) (by decide)) (Nat.le_trans (v_BA_G hB) (by decide)) (c := 3 + 2) (i := 0) (j := 0) ⟨rfl, rfl⟩ (by decide)
      have st : x_LS 12 a m (v_set S.1 (3 + 2) 0 0 x.1, S.2.1, fun j => if j = 2 then true else S.2.2 j) x.2 F3 G2 := by
        refine ⟨hR3, c3, y_NR_v s2.2.2.1 (show v_set S.1 (3 + 2) 0 0 x.1 0 0 0 = S.1 0 0 0 from v_set_c (by decide)) (show v_set S.1 (3 + 2) 0 0 x.1 1 0 0 = S.1 1 0 0 from v_set_c (by decide)) (show v_set S.1 (3 + 2) 0 0 x.1 2 0 0 = S.1 2 0 0 from v_set_c (by decide)), fun i hi => ?_⟩
        rw [hF3]
        by_cases e : i = 2
        · rw [e]
          show x_up (x_up F2 601 2 1) 13 2 (F2 10 9) 601 2 = x_bo (if 2 = 2 then true else S.2.2 2)
          rw [if_pos rfl]
          exact (congrFun (x_up_k (by decide)) _).trans (x_up_s _ _ _ _)
        · show x_up (x_up F2 601 2 1) 13 2 (F2 10 9) 601 i = x_bo (if i = 2 then true else S.2.2 i)
          rw [if_neg e]
          exact (congrFun (x_up_k (by decide)) _).trans ((x_up_j e).trans (s2.2.2.2 i hi))
      show ∃ P, x_Ct 86 (d + 2) [.ref 10, .int 59] (x_up (x_up F2 601 2 1) 13 2 (F2 10 9), G2, x_HR 22 t, dm, n) P ∧ _
      rw [← hF3]
      refine Exists.intro _ (And.intro (c_takeSign (c := 59) hT hR3 (by decide) (by decide)) (And.intro (And.intro (Nat.zero_le _) (Nat.zero_le _)) (fun zq h' hpo => ?_)))
      cases e2 : y_sgn a m 59 x.2 with
      | inl e =>
        obtain ⟨rfl, F4, G4, rfl, p1, p2⟩ := x_PT_l e2 hpo
        refine And.intro ?_ ⟨Or.inl rfl, Nat.le_refl _, Nat.le_refl _⟩
        rw [hPo]
        refine x_PLd_l ?_ (x_fL_t (x_fL_t (x_fL_10 u1) (x_fL_10 w1)) (x_fL_t f3 (x_fL_10 p1))) p2 (v_CA_10 hL p1 c3) hB3
        unfold y_rule
        rw [if_neg (by rw [c]; decide)]
        show y_bd (y_nbr a m 0 999 (y_nxt a m q)) _ = _
        rw [e1]
        show y_bd (y_sgn a m 59 x.2) _ = _
        rw [e2]
        rfl
      | inr q4 =>
        obtain ⟨rfl, F4, G4, rfl, p1, p2⟩ := x_PT_r e2 hpo
        refine And.intro ?_ ⟨Or.inr rfl, Nat.le_refl _, Nat.le_refl _⟩
        rw [hPo]
        refine x_PLd_r (w := ((v_set S.1 (3 + 2) 0 0 x.1, S.2.1, fun j => if j = 2 then true else S.2.2 j), q4)) ?_ (x_fL_t (x_fL_t (x_fL_10 u1) (x_fL_10 w1)) (x_fL_t f3 (x_fL_10 p1))) (x_LS_10 hL st p1 p2.1)
        unfold y_rule
        rw [if_neg (by rw [c]; decide)]
        show y_bd (y_nbr a m 0 999 (y_nxt a m q)) _ = _
        rw [e1]
        show y_bd (y_sgn a m 59 x.2) _ = _
        rw [e2]
        rfl
  · have c : ¬ f 601 2 = 0 := c
    rw [ht, x_bo_t, Bool.not_eq_false] at c
    refine Exists.intro _ (And.intro (c_fail (k := 5) hS.1) (And.intro (And.intro (Nat.zero_le _) (Nat.zero_le _)) (fun zq h' hpo => ?_)))
    obtain ⟨rfl, F1, rfl, u1, u2⟩ := hpo
    refine And.intro ?_ ⟨Or.inl rfl, Nat.le_refl _, Nat.le_refl _⟩
    rw [hPo]
    exact x_PLd_l (if_pos c) (x_fL_10 u1) u2 (v_CA_10 hL u1 hS.2.1) hB
end C79
