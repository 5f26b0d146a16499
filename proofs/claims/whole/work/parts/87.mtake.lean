/-! what the model's reader takes -/
def x_f5 (f F : Nat → Nat → Int32) : Prop := (∀ c, c ≠ 500 → F c = f c) ∧ ∀ j, j < 12 ∨ j = 16 ∨ 18 < j → F 500 j = f 500 j
def x_FM (F : Nat → Nat → Int32) (e : Nat × Nat) : Prop := F 500 18 = nI e.1 ∧ F 500 17 = nI e.2
def x_PUm {β : Type} (f : Nat → Nat → Int32) (g : Nat → Nat → Int64) (ρ : Nat → Nat → Option Nat) (dm : List Nat) (n : Nat) (X : xF β) (Q : β → (Nat → Nat → Int32) → Prop) (z : Option Value) (h' : xH) : Prop := match X with
  | .inl e => z = some (.int 0) ∧ ∃ F, h' = (F, g, ρ, dm, n) ∧ x_f5 f F ∧ x_FM F e
  | .inr w => z = some (.int 1) ∧ ∃ F, h' = (F, g, ρ, dm, n) ∧ Q w F
theorem x_f5_r (f : Nat → Nat → Int32) : x_f5 f f := ⟨fun _ _ => rfl, fun _ _ => rfl⟩
theorem x_f5_t {f F F2 : Nat → Nat → Int32} (h1 : x_f5 f F) (h2 : x_f5 F F2) : x_f5 f F2 := ⟨fun c hc => (h2.1 c hc).trans (h1.1 c hc), fun j hj => (h2.2 j hj).trans (h1.2 j hj)⟩
section C87
variable {β : Type} {f : Nat → Nat → Int32} {g : Nat → Nat → Int64} {r t : Nat} {dm : List Nat} {n d N : Nat} {v : xV} {ρ : Nat → Nat → Option Nat} {a : Nat → Int32} {m q : Nat} {X : xF β} {Q : β → (Nat → Nat → Int32) → Prop} {z : Option Value} {h' : xH} {e : Nat × Nat} {w : β} {F : Nat → Nat → Int32}
theorem x_PUm_l (hX : X = .inl e) (h : x_PUm f g ρ dm n X Q z h') : z = some (.int 0) ∧ ∃ F, h' = (F, g, ρ, dm, n) ∧ x_f5 f F ∧ x_FM F e := by
  subst hX
  exact h
theorem x_PUm_r (hX : X = .inr w) (h : x_PUm f g ρ dm n X Q z h') : z = some (.int 1) ∧ ∃ F, h' = (F, g, ρ, dm, n) ∧ Q w F := by
  subst hX
  exact h
theorem x_PUm_L (hX : X = .inl e) (h1 : x_f5 f F) (h2 : x_FM F e) : x_PUm f g ρ dm n X Q (some (.int 0)) (F, g, ρ, dm, n) := by
  subst hX
  exact ⟨rfl, F, rfl, h1, h2⟩
theorem x_PUm_R (hX : X = .inr w) (h2 : Q w F) : x_PUm f g ρ dm n X Q (some (.int 1)) (F, g, ρ, dm, n) := by
  subst hX
  exact ⟨rfl, F, rfl, h2⟩
theorem m_ahd (hT : y_TP a m) (hR : x_RMt a m q f) (h3 : y_sa a m q ≠ 3) : x_Ct 197 (d + 1) [.ref 500] (f, g, x_HR r t, dm, n) (fun z h' => z = none ∧ ∃ F, h' = (F, g, x_HR r t, dm, n) ∧ x_f5 f F ∧ F 500 17 = f 500 17 ∧ x_RMt a m (y_nxt a m q) F) := by
  obtain ⟨rfl, hK, h0⟩ := hR
  have e := m_ahead0 (d := d) (n := n) (dm := dm) (r := r) (t := t) (f := f) (g := g) hK.1 hT.1 (hK.2.2.2.1 h3) (y_end_le h3).2 hT.2
  refine x_Ct_mono e (fun z h' hp => ?_)
  obtain ⟨h1, F, h2, h5, h6, h8⟩ := hp
  exact ⟨h1, F, h2, ⟨h5, fun j hj => h6 j (by omega)⟩, h6 17 (by decide), h5 507 (by decide), h8, (h6 18 (by decide)).trans h0.1, (h6 17 (by decide)).trans h0.2⟩
theorem m_fails {k : Nat} (hR : x_RMt a m q f) : x_Ct 200 d [.ref 500, .int (nI k)] (f, g, x_HR r t, dm, n) (fun z h' => z = some (.int 0) ∧ ∃ F, h' = (F, g, x_HR r t, dm, n) ∧ x_f5 f F ∧ x_FM F (y_fl a m q k)) := by
  obtain ⟨rfl, hK, h0⟩ := hR
  refine x_Ct_w (by decide) (Nat.le_of_ble_eq_true rfl) ok200 [] 6 ?_
  refine And.intro (fun c => absurd (show f 500 18 = 0 from h0.1) c) (fun _ => ?_)
  refine And.intro (fun c => ?_) (fun c => ?_)
  · have c : ¬ f 500 12 = 1 := c
    rw [hK.2.2.1, y_mk_1] at c
    refine And.intro ?_ ⟨Or.inl rfl, Nat.le_refl _, Nat.le_refl _⟩
    refine ⟨rfl, _, rfl, ⟨fun c hc => (x_up_k hc).trans (x_up_k hc), fun j hj => (x_up_j (by omega)).trans (x_up_j (by omega))⟩, ?_, ?_⟩
    · unfold y_fl
      rw [if_neg c]
      rfl
    · exact hK.2.1
  · have c : f 500 12 = 1 := c
    rw [hK.2.2.1, y_mk_1] at c
    refine And.intro ?_ ⟨Or.inl rfl, Nat.le_refl _, Nat.le_refl _⟩
    refine ⟨rfl, _, rfl, ⟨fun c hc => (x_up_k hc).trans (x_up_k hc), fun j hj => (x_up_j (by omega)).trans (x_up_j (by omega))⟩, ?_, ?_⟩
    · unfold y_fl
      rw [if_pos c]
      rfl
    · exact hK.2.1
theorem m_isSign {c : Int32} (hc : y_mk c = 4) (hR : x_RMt a m q f) : x_V 198 d [.ref 500, .int c] (f, g, x_HR r t, dm, n) (.int (x_bo (decide (y_tk a m q = c)))) (f, g, x_HR r t, dm, n) := by
  obtain ⟨-, hK, -⟩ := hR
  refine x_Ct_w (by decide) (Nat.le_of_ble_eq_true rfl) ok198 [] 6 ?_
  refine And.intro (fun k => ?_) (fun k => ?_)
  · have k : ¬ f 500 12 = 4 := k
    rw [hK.2.2.1] at k
    rw [decide_eq_false (fun e => k (by rw [e]; exact hc))]
    exact And.intro ⟨rfl, rfl⟩ ⟨Or.inl rfl, Nat.le_refl _, Nat.le_refl _⟩
  · have k : f 500 12 = 4 := k
    rw [hK.2.2.1] at k
    have e := hK.2.2.2.2.2 k
    refine And.intro (fun k2 => ?_) (fun k2 => ?_)
    · have k2 : ¬ f 500 15 = c := k2
      rw [e] at k2
      rw [decide_eq_false k2]
      exact And.intro ⟨rfl, rfl⟩ ⟨Or.inl rfl, Nat.le_refl _, Nat.le_refl _⟩
    · have k2 : f 500 15 = c := k2
      rw [e] at k2
      rw [decide_eq_true k2]
      exact And.intro ⟨rfl, rfl⟩ ⟨Or.inr rfl, Nat.le_refl _, Nat.le_refl _⟩
theorem m_wantSign {c : Int32} (hc : y_mk c = 4) (hT : y_TP a m) (hR : x_RMt a m q f) : x_Ct 202 (d + 2) [.ref 500, .int c] (f, g, x_HR r t, dm, n) (x_PUm f g (x_HR r t) dm n (y_sgn a m c q) (fun q' F => x_RMt a m q' F ∧ x_f5 f F ∧ F 500 17 = f 500 17)) := by
  obtain ⟨Po, hPo⟩ : ∃ Po : Option Value → xH → Prop, Po = x_PUm f g (x_HR r t) dm n (y_sgn a m c q) (fun q' F => x_RMt a m q' F ∧ x_f5 f F ∧ F 500 17 = f 500 17) := ⟨_, rfl⟩
  rw [← hPo]
  have c4 : c ≠ 4 := fun e => by rw [e] at hc; exact absurd hc (by decide)
  have c3 : c ≠ 3 := fun e => by rw [e] at hc; exact absurd hc (by decide)
  refine x_Ct_w (by decide) (Nat.le_of_ble_eq_true rfl) ok202 [] 6 ?_
  refine Exists.intro _ (And.intro (m_isSign hc hR) (And.intro (And.intro (Nat.zero_le _) (Nat.zero_le _)) (fun q h' hpo => ?_)))
  obtain ⟨rfl, rfl⟩ := hpo
  by_cases k : y_tk a m q = c
  · rw [decide_eq_true k]
    refine And.intro (fun _ => ?_) (fun c => absurd (show (1 : Int32) = 0 from c) (by decide))
    refine Exists.intro _ (And.intro (m_ahd hT hR (by rw [y_tk_sa k c4]; exact c3)) (And.intro (And.intro (Nat.zero_le _) (Nat.zero_le _)) (fun zq h' hpo => ?_)))
    obtain ⟨rfl, F, rfl, u1, u2, u3⟩ := hpo
    refine And.intro ?_ ⟨Or.inr rfl, Nat.le_refl _, Nat.le_refl _⟩
    rw [hPo]
    exact x_PUm_R (if_pos k) ⟨u3, u1, u2⟩
  · rw [decide_eq_false k]
    refine And.intro (fun c => absurd rfl c) (fun _ => ?_)
    refine Exists.intro _ (And.intro (m_fails (k := 2) hR) (And.intro (And.intro (Nat.zero_le _) (Nat.zero_le _)) (fun zq h' hpo => ?_)))
    obtain ⟨rfl, F, rfl, u1, u2⟩ := hpo
    refine And.intro ?_ ⟨Or.inl rfl, Nat.le_refl _, Nat.le_refl _⟩
    rw [hPo]
    exact x_PUm_L (if_neg k) u1 u2
theorem m_wantWord {w : Nat} {c : Int32} (hc : c = nI w) (hw : w < 25) (hT : y_TP a m) (hR : x_RMt a m q f) : x_Ct 203 (d + 6) [.ref 500, .ref 1003, .int c] (f, g, x_HR r t, dm, n) (x_PUm f g (x_HR r t) dm n (y_wrd a m (nI w) q) (fun q' F => x_RMt a m q' F ∧ x_f5 f F)) := by
  subst hc
  obtain ⟨Po, hPo⟩ : ∃ Po : Option Value → xH → Prop, Po = x_PUm f g (x_HR r t) dm n (y_wrd a m (nI w) q) (fun q' F => x_RMt a m q' F ∧ x_f5 f F) := ⟨_, rfl⟩
  rw [← hPo]
  have no : ¬ nI w = -1 := by
    have : ∀ j, j < 25 → ¬ nI j = -1 := by decide +kernel
    exact this w hw
  refine x_Ct_w (by decide) (Nat.le_of_ble_eq_true rfl) ok203 [] 6 ?_
  refine Exists.intro _ (And.intro (m_inWords hT hR) (And.intro (And.intro (Nat.zero_le _) (Nat.zero_le _)) (fun q h' hpo => ?_)))
  obtain ⟨rfl, rfl⟩ := hpo
  refine And.intro (fun k => ?_) (fun k => ?_)
  · have k : y_wm a m q = nI w := k
    refine Exists.intro _ (And.intro (m_ahd hT hR (by rw [y_wm_sa (by rw [k]; exact no)]; decide)) (And.intro (And.intro (Nat.zero_le _) (Nat.zero_le _)) (fun zq h' hpo => ?_)))
    obtain ⟨rfl, F, rfl, u1, u2, u3⟩ := hpo
    refine And.intro ?_ ⟨Or.inr rfl, Nat.le_refl _, Nat.le_refl _⟩
    rw [hPo]
    exact x_PUm_R (if_pos k) ⟨u3, u1⟩
  · have k : ¬ y_wm a m q = nI w := k
    refine Exists.intro _ (And.intro (m_fails (k := 2) hR) (And.intro (And.intro (Nat.zero_le _) (Nat.zero_le _)) (fun zq h' hpo => ?_)))
    obtain ⟨rfl, F, rfl, u1, u2⟩ := hpo
    refine And.intro ?_ ⟨Or.inl rfl, Nat.le_refl _, Nat.le_refl _⟩
    rw [hPo]
    exact x_PUm_L (if_neg k) u1 u2
theorem m_isThere {w : Nat} {c : Int32} (hc : c = nI w) (hw : w < 25) (hT : y_TP a m) (hR : x_RMt a m q f) : x_Ct 210 (d + 6) [.ref 500, .int c] (f, g, x_HR r t, dm, n) (fun z h' => z = some (.int (x_bo (decide (y_wm a m q = nI w)))) ∧ ∃ F, h' = (F, g, x_HR r t, dm, n) ∧ x_f5 f F ∧ x_RMt a m (if y_wm a m q = nI w then y_nxt a m q else q) F) := by
  subst hc
  obtain ⟨Po, hPo⟩ : ∃ Po : Option Value → xH → Prop, Po = (fun z h' => z = some (.int (x_bo (decide (y_wm a m q = nI w)))) ∧ ∃ F, h' = (F, g, x_HR r t, dm, n) ∧ x_f5 f F ∧ x_RMt a m (if y_wm a m q = nI w then y_nxt a m q else q) F) := ⟨_, rfl⟩
  rw [← hPo]
  have no : ¬ nI w = -1 := by
    have : ∀ j, j < 25 → ¬ nI j = -1 := by decide +kernel
    exact this w hw
  refine x_Ct_w (by decide) (Nat.le_of_ble_eq_true rfl) ok210 [] 6 ?_
  refine Exists.intro _ (And.intro (m_inWords hT hR) (And.intro (And.intro (Nat.zero_le _) (Nat.zero_le _)) (fun q h' hpo => ?_)))
  obtain ⟨rfl, rfl⟩ := hpo
  refine And.intro (fun k => ?_) (fun k => ?_)
  · have k : y_wm a m q = nI w := k
    refine Exists.intro _ (And.intro (m_ahd hT hR (by rw [y_wm_sa (by rw [k]; exact no)]; decide)) (And.intro (And.intro (Nat.zero_le _) (Nat.zero_le _)) (fun zq h' hpo => ?_)))
    obtain ⟨rfl, F, rfl, u1, u2, u3⟩ := hpo
    refine And.intro ?_ ⟨Or.inr rfl, Nat.le_refl _, Nat.le_refl _⟩
    rw [hPo]
    refine ⟨?_, F, rfl, u1, ?_⟩
    · rw [decide_eq_true k]
      rfl
    · rw [if_pos k]
      exact u3
  · have k : ¬ y_wm a m q = nI w := k
    refine And.intro ?_ ⟨Or.inl rfl, Nat.le_refl _, Nat.le_refl _⟩
    rw [hPo]
    refine ⟨?_, f, rfl, x_f5_r f, ?_⟩
    · rw [decide_eq_false k]
      rfl
    · rw [if_neg k]
      exact hR
theorem y_nv_lt (hT : y_TP a m) (k : y_tk a m q = 2) : y_nv a m q < 10000 := by
  have hs := y_tk_sa k (by decide)
  have h9 : y_end a m q - q ≤ 4 := by
    unfold y_tk at k
    by_cases w : y_sa a m q = 2 ∧ 4 < y_end a m q - q
    · rw [if_pos w] at k
      exact absurd k (by decide)
    · rw [hs] at w
      by_cases w2 : 4 < y_end a m q - q
      · exact absurd ⟨rfl, w2⟩ w
      · omega
  have h10 := y_num_lt (a := a) (q := q) (y_end a m q - q) (fun k hk => (y_dgs hT.2 hs k hk).2.1)
  have h11 : 10 ^ (y_end a m q - q) ≤ 10 ^ 4 := Nat.pow_le_pow_right (by decide) h9
  unfold y_nv
  omega
theorem m_number {to lo hi : Nat} (hto : to < 3168) (hlo : lo < 2 ^ 31) (hhi : hi < 2 ^ 31) (hT : y_TP a m) (hR : x_RMt a m q f) : x_Ct 204 (d + 2) [.ref 500, .int (nI to), .int (nI lo), .int (nI hi)] (f, g, x_HR r t, dm, n) (x_PUm f g (x_HR r t) dm n (y_nbr a m lo hi q) (fun z F => x_RMt a m z.2 F ∧ x_f5 (x_up f 501 to (nI z.1)) F)) := by
  obtain ⟨Po, hPo⟩ : ∃ Po : Option Value → xH → Prop, Po = x_PUm f g (x_HR r t) dm n (y_nbr a m lo hi q) (fun z F => x_RMt a m z.2 F ∧ x_f5 (x_up f 501 to (nI z.1)) F) := ⟨_, rfl⟩
  rw [← hPo]
  refine x_Ct_w (by decide) (Nat.le_of_ble_eq_true rfl) ok204 [30, 36] 6 ?_
  refine And.intro (fun k => ?_) (fun k => ?_)
  · have k : f 500 12 = 3 := k
    rw [hR.2.1.2.2.1, y_mk_3] at k
    have hs := y_tk_sa k (by decide)
    have h8 : f 500 15 = nI (y_nv a m q) := hR.2.1.2.2.2.2.1 k
    have hlt := y_nv_lt hT k
    have bad : (y_nv a m q < lo ∨ hi < y_nv a m q) → x_J 204 (d + 2) Po 30 [some (.ref 500), some (.int (nI to)), some (.int (nI lo)), some (.int (nI hi))] [] (f, g, x_HR r t, dm, n) 0 0 := by
      intro w
      refine x_wp_ok ok204 [] 6 ?_
      refine Exists.intro _ (And.intro (m_fails (k := 4) hR) (And.intro (And.intro (Nat.zero_le _) (Nat.zero_le _)) (fun zq h' hpo => ?_)))
      obtain ⟨rfl, F, rfl, u1, u2⟩ := hpo
      refine And.intro ?_ ⟨Or.inl rfl, Nat.le_refl _, Nat.le_refl _⟩
      rw [hPo]
      exact x_PUm_L ((if_pos k).trans (if_pos w)) u1 u2
    refine And.intro (fun k1 => ?_) (fun k1 => ?_)
    · have k1 : f 500 15 < nI lo := k1
      rw [h8, nI_ltI (by omega) hlo] at k1
      exact bad (Or.inl k1)
    · have k1 : ¬ f 500 15 < nI lo := k1
      rw [h8, nI_ltI (by omega) hlo] at k1
      refine And.intro (fun k2 => ?_) (fun k2 => ?_)
      · have k2 : f 500 15 ≤ nI hi := k2
        rw [h8, nI_leI (by omega) hhi] at k2
        refine x_wp_ok ok204 [] 6 ?_
        refine And.intro (x_ix_nI hto (by omega)) ?_
        have hR2 : x_RMt a m q (x_up f 501 to (nI (y_nv a m q))) := ⟨(x_up_k (by decide)).trans hR.1, by rw [x_up_k (by decide)]; exact hR.2.1, by rw [x_up_k (by decide)]; exact hR.2.2⟩
        have e2 : x_up f 501 to (nI (y_nv a m q)) = x_up f 501 (nI to).toNatClampNeg (f 500 15) := by rw [nI_clamp (by omega), h8]
        show ∃ P, x_Ct 197 (d + 1) [.ref 500] (x_up f 501 (nI to).toNatClampNeg (f 500 15), g, x_HR r t, dm, n) P ∧ _
        rw [← e2]
        refine Exists.intro _ (And.intro (m_ahd hT hR2 (by rw [hs]; decide)) (And.intro (And.intro (Nat.zero_le _) (Nat.zero_le _)) (fun zq h' hpo => ?_)))
        obtain ⟨rfl, F, rfl, u1, u2, u3⟩ := hpo
        refine And.intro ?_ ⟨Or.inr rfl, Nat.le_refl _, Nat.le_refl _⟩
        rw [hPo]
        exact x_PUm_R ((if_pos k).trans (if_neg (by omega))) ⟨u3, u1⟩
      · have k2 : ¬ f 500 15 ≤ nI hi := k2
        rw [h8, nI_leI (by omega) hhi] at k2
        exact bad (Or.inr (by omega))
  · have k : ¬ f 500 12 = 3 := k
    rw [hR.2.1.2.2.1, y_mk_3] at k
    refine Exists.intro _ (And.intro (m_fails (k := 2) hR) (And.intro (And.intro (Nat.zero_le _) (Nat.zero_le _)) (fun zq h' hpo => ?_)))
    obtain ⟨rfl, F, rfl, u1, u2⟩ := hpo
    refine And.intro ?_ ⟨Or.inl rfl, Nat.le_refl _, Nat.le_refl _⟩
    rw [hPo]
    exact x_PUm_L (if_neg k) u1 u2
theorem m_isName (hT : y_TP a m) (hR : x_RMt a m q f) : x_V 205 (d + 6) [.ref 500, .ref 1003] (f, g, x_HR r t, dm, n) (.int (x_bo (y_nm a m q))) (f, g, x_HR r t, dm, n) := by
  refine x_Ct_w (by decide) (Nat.le_of_ble_eq_true rfl) ok205 [] 6 ?_
  have hm := hT.1
  refine And.intro (fun k => ?_) (fun k => ?_)
  · have k : ¬ f 500 12 = 2 := k
    rw [hR.2.1.2.2.1, y_mk_2, y_tk_1] at k
    have e : y_nm a m q = false := by
      unfold y_nm
      rw [decide_eq_false k]
      rfl
    rw [e]
    exact And.intro ⟨rfl, rfl⟩ ⟨Or.inl rfl, Nat.le_refl _, Nat.le_refl _⟩
  · have k : f 500 12 = 2 := k
    rw [hR.2.1.2.2.1, y_mk_2, y_tk_1] at k
    have h7 := y_end_le (a := a) (m := m) (q := q) (by rw [k]; decide)
    have e6 : f 500 14 - f 500 13 = nI (y_end a m q - q) := by rw [hR.2.1.2.2.2.1 (by rw [k]; decide), hR.2.1.2.1, pk_sub (by omega)]
    refine And.intro (fun k3 => ?_) (fun k3 => ?_)
    · have k3 : nI 8 < f 500 14 - f 500 13 := k3
      rw [e6, nI_ltI (by omega) (by omega)] at k3
      have e : y_nm a m q = false := by
        unfold y_nm
        rw [decide_eq_true k, decide_eq_false (show ¬ y_end a m q - q ≤ 8 by omega), Bool.and_false]
        rfl
      rw [e]
      exact And.intro ⟨rfl, rfl⟩ ⟨Or.inl rfl, Nat.le_refl _, Nat.le_refl _⟩
    · have k3 : ¬ nI 8 < f 500 14 - f 500 13 := k3
      rw [e6, nI_ltI (by omega) (by omega)] at k3
      refine Exists.intro _ (And.intro (m_inWords hT hR) (And.intro (And.intro (Nat.zero_le _) (Nat.zero_le _)) (fun q h' hpo => ?_)))
      obtain ⟨rfl, rfl⟩ := hpo
      refine And.intro (fun k2 => ?_) (fun k2 => ?_)
      · have k2 : ¬ y_wm a m q = -1 := k2
        have e : y_nm a m q = false := by
          unfold y_nm
          rw [decide_eq_true k, decide_eq_false k2]
          rfl
        rw [e]
        exact And.intro ⟨rfl, rfl⟩ ⟨Or.inl rfl, Nat.le_refl _, Nat.le_refl _⟩
      · have k2 : y_wm a m q = -1 := k2
        have e : y_nm a m q = true := by
          unfold y_nm
          rw [decide_eq_true k, decide_eq_true k2, decide_eq_true (show y_end a m q - q ≤ 8 by omega)]
          rfl
        rw [e]
        exact And.intro ⟨rfl, rfl⟩ ⟨Or.inr rfl, Nat.le_refl _, Nat.le_refl _⟩
theorem m_nameHere (hT : y_TP a m) (hR : x_RMt a m q f) (hs : y_sa a m q = 1) : x_V 206 (d + 1) [.ref 500] (f, g, x_HR r t, dm, n) (.long (y_lt a m q)) (f, g, x_HR r t, dm, n) := by
  have hm := hT.1
  have h7 := y_end_le (a := a) (m := m) (q := q) (by rw [hs]; decide)
  have k13 : f 500 13 = nI q := hR.2.1.2.1
  have k14 : f 500 14 = nI (y_end a m q) := hR.2.1.2.2.2.1 (by rw [hs]; decide)
  have lp : ∀ j i, i + j = y_end a m q → q ≤ i → x_J 206 (d + 1) (fun z h' => z = some (.long (y_lt a m q)) ∧ h' = (f, g, x_HR r t, dm, n)) 7 [some (.ref 500), some (.long (y_let a q (i - q))), none, some (.int (nI i))] [] (f, g, x_HR r t, dm, n) 0 0 := by
    intro j
    induction j with
    | zero =>
      intro i hi hq
      obtain rfl : i = y_end a m q := by omega
      refine x_wp_ok ok206 [7] 6 ?_
      refine And.intro (fun _ => ?_) (fun c => absurd (show f 500 14 ≤ nI (y_end a m q) by rw [k14]; exact nI_le (Nat.le_refl _) (by omega)) c)
      exact And.intro ⟨rfl, rfl⟩ ⟨trivial, Nat.le_refl _, Nat.le_refl _⟩
    | succ j ih =>
      intro i hi hq
      refine x_wp_ok ok206 [7] 6 ?_
      refine And.intro (fun c => absurd (show f 500 14 ≤ nI i from c) (by rw [k14]; exact nI_ge (by omega) (by omega))) (fun _ => ?_)
      refine Exists.intro _ (And.intro (m_byteAt (k := i) (m := m) hR.2.1.1 hm (by omega)) (And.intro (And.intro (Nat.zero_le _) (Nat.zero_le _)) (fun q h' hpo => ?_)))
      obtain ⟨rfl, rfl⟩ := hpo
      have eb : y_ba (f 507) m i = a i := by
        rw [hR.1]
        unfold y_ba
        rw [if_pos (by omega)]
        have := (y_lts hT.2 hs (i - q) (by omega)).2.2.2
        rw [show q + (i - q) = i by omega] at this
        exact this
      rw [eb]
      have e0 := ih (i + 1) (by omega) (by omega)
      rw [show i + 1 - q = (i - q) + 1 by omega] at e0
      have e1 : y_let a q (i - q + 1) = (y_let a q (i - q) <<< ((Int8.ofInt 8).toInt32.toInt64 &&& 63)) ||| (a i).toInt64 := by
        show (y_let a q (i - q) <<< ((Int8.ofInt 8).toInt32.toInt64 &&& 63)) ||| (a (q + (i - q))).toInt64 = _
        rw [show q + (i - q) = i by omega]
      rw [e1, ← nI_1o] at e0
      exact e0
  refine x_Ct_w (by decide) (Nat.le_of_ble_eq_true rfl) ok206 [7] 6 ?_
  show x_J 206 (d + 1) _ 7 [some (.ref 500), some (.long 0), none, some (.int (f 500 13))] [] (f, g, x_HR r t, dm, n) 0 0
  rw [k13]
  have e0 := lp (y_end a m q - q) q (by omega) (Nat.le_refl _)
  rw [Nat.sub_self] at e0
  exact e0
theorem m_findHere {b M : Nat} (hb : b + M ≤ 84) (hT : y_TP a m) (hR : x_RMt a m q f) (hs : y_sa a m q = 1) : x_V 207 (d + 2) [.ref 500, .int (nI b), .int (nI M)] (f, g, x_HR r t, dm, n) (.int (y_oi (y_fd (g 502) (y_lt a m q) b M 0))) (f, g, x_HR r t, dm, n) := by
  obtain ⟨R, hRR⟩ : ∃ R, R = y_fd (g 502) (y_lt a m q) b M 0 := ⟨_, rfl⟩
  rw [← hRR]
  have lp : ∀ j k, k + j = M → y_fd (g 502) (y_lt a m q) b j k = R → x_J 207 (d + 2) (fun q h' => q = some (.int (y_oi R)) ∧ h' = (f, g, x_HR r t, dm, n)) 2 [some (.ref 500), some (.int (nI b)), some (.int (nI M)), some (.int (nI k))] [] (f, g, x_HR r t, dm, n) 0 0 := by
    intro j
    induction j with
    | zero =>
      intro k hk e
      obtain rfl : k = M := by omega
      refine x_wp_ok ok207 [2] 6 ?_
      refine And.intro (fun _ => ?_) (fun c => absurd (show nI k ≤ nI k from nI_le (Nat.le_refl _) (by omega)) c)
      have e1 : R = none := e.symm
      rw [e1]
      exact And.intro ⟨rfl, rfl⟩ ⟨trivial, Nat.le_refl _, Nat.le_refl _⟩
    | succ j ih =>
      intro k hk e
      refine x_wp_ok ok207 [2] 6 ?_
      refine And.intro (fun c => absurd (show nI M ≤ nI k from c) (nI_ge (by omega) (by omega))) (fun _ => ?_)
      have cl : (nI b + nI k).toNatClampNeg = b + k := by rw [nI_add]; exact nI_clamp (by omega)
      refine And.intro (by show x_ix (nI b + nI k) 84; rw [nI_add]; exact x_ix_nI (by omega) (by omega)) ?_
      refine Exists.intro _ (And.intro (m_nameHere hT hR hs) (And.intro (And.intro (Nat.zero_le _) (Nat.zero_le _)) (fun q h' hpo => ?_)))
      obtain ⟨rfl, rfl⟩ := hpo
      refine And.intro (fun c => ?_) (fun c => ?_)
      · have c : ¬ lg_cmp (g 502 (nI b + nI k).toNatClampNeg) (y_lt a m q) = 0 := c
        rw [cl, x_lg_eq] at c
        have e2 : y_fd (g 502) (y_lt a m q) b (j + 1) k = y_fd (g 502) (y_lt a m q) b j (k + 1) := if_neg c
        have e0 := ih (k + 1) (by omega) (e2.symm.trans e)
        rw [← nI_1o] at e0
        exact e0
      · have c : lg_cmp (g 502 (nI b + nI k).toNatClampNeg) (y_lt a m q) = 0 := c
        rw [cl, x_lg_eq] at c
        have e2 : y_fd (g 502) (y_lt a m q) b (j + 1) k = some k := if_pos c
        have e1 : R = some k := e.symm.trans e2
        rw [e1]
        exact And.intro ⟨rfl, rfl⟩ ⟨trivial, Nat.le_refl _, Nat.le_refl _⟩
  refine x_Ct_w (by decide) (Nat.le_of_ble_eq_true rfl) ok207 [2] 6 ?_
  exact lp M 0 (by omega) hRR.symm
theorem m_oldOne {b M to : Nat} {N : Nat → Int64} {b' : Nat} (hto : to < 3168) (hb : b + M ≤ 84) (hM : M ≤ 9) (hT : y_TP a m) (hR : x_RMt a m q f) (hN : y_fd (g 502) (y_lt a m q) b M 0 = y_fd N (y_lt a m q) b' M 0) : x_Ct 212 (d + 7) [.ref 500, .int (nI b), .int (nI M), .int (nI to)] (f, g, x_HR r t, dm, n) (fun z h' => match y_old a m N b' M q with
    | .inl e => z = some (.int 0) ∧ ∃ F, h' = (F, g, x_HR r t, dm, n) ∧ (x_f5 f F ∨ ∃ x, x_f5 (x_up f 501 to x) F) ∧ x_FM F e
    | .inr w => z = some (.int 1) ∧ ∃ F, h' = (F, g, x_HR r t, dm, n) ∧ x_RMt a m w.2 F ∧ x_f5 (x_up f 501 to (nI w.1)) F) := by
  obtain ⟨Po, hPo⟩ : ∃ Po : Option Value → xH → Prop, Po = (fun z h' => match y_old a m N b' M q with
    | .inl e => z = some (.int 0) ∧ ∃ F, h' = (F, g, x_HR r t, dm, n) ∧ (x_f5 f F ∨ ∃ x, x_f5 (x_up f 501 to x) F) ∧ x_FM F e
    | .inr w => z = some (.int 1) ∧ ∃ F, h' = (F, g, x_HR r t, dm, n) ∧ x_RMt a m w.2 F ∧ x_f5 (x_up f 501 to (nI w.1)) F) := ⟨_, rfl⟩
  rw [← hPo]
  refine x_Ct_w (by decide) (Nat.le_of_ble_eq_true rfl) ok212 [] 6 ?_
  refine Exists.intro _ (And.intro (m_isName hT hR) (And.intro (And.intro (Nat.zero_le _) (Nat.zero_le _)) (fun q h' hpo => ?_)))
  obtain ⟨rfl, rfl⟩ := hpo
  cases e : y_nm a m q with
  | false =>
    refine And.intro (fun c => absurd rfl c) (fun _ => ?_)
    refine Exists.intro _ (And.intro (m_fails (k := 2) hR) (And.intro (And.intro (Nat.zero_le _) (Nat.zero_le _)) (fun zq h' hpo => ?_)))
    obtain ⟨rfl, F, rfl, u1, u2⟩ := hpo
    refine And.intro ?_ ⟨Or.inl rfl, Nat.le_refl _, Nat.le_refl _⟩
    have eX : y_old a m N b' M q = .inl (y_fl a m q 2) := if_neg (by rw [e]; decide)
    rw [hPo, eX]
    exact ⟨rfl, F, rfl, Or.inl u1, u2⟩
  | true =>
    obtain ⟨s1, s2, s3⟩ := y_nm_sa e
    refine And.intro (fun _ => ?_) (fun c => absurd (show (1 : Int32) = 0 from c) (by decide))
    refine Exists.intro _ (And.intro (m_findHere hb hT hR s1) (And.intro (And.intro (Nat.zero_le _) (Nat.zero_le _)) (fun q h' hpo => ?_)))
    obtain ⟨rfl, rfl⟩ := hpo
    rw [hN]
    refine And.intro (x_ix_nI hto (by omega)) ?_
    refine And.intro (x_ix_nI hto (by omega)) ?_
    have hR2 : ∀ x, x_RMt a m q (x_up f 501 to x) := fun x => ⟨(x_up_k (by decide)).trans hR.1, by rw [x_up_k (by decide)]; exact hR.2.1, by rw [x_up_k (by decide)]; exact hR.2.2⟩
    have ev : ∀ x, x_up f 501 (nI to).toNatClampNeg x 501 (nI to).toNatClampNeg = x := fun x => x_up_s _ _ _ _
    have ec : (nI to).toNatClampNeg = to := nI_clamp (by omega)
    cases e2 : y_fd N (y_lt a m q) b' M 0 with
    | none =>
      refine And.intro (fun c => absurd (show x_up f 501 (nI to).toNatClampNeg (-1) 501 (nI to).toNatClampNeg = -1 from ev _) c) (fun _ => ?_)
      show ∃ P, x_Ct 200 (d + 6) [.ref 500, .int (nI 3)] (x_up f 501 (nI to).toNatClampNeg (-1), g, x_HR r t, dm, n) P ∧ _
      rw [ec]
      refine Exists.intro _ (And.intro (m_fails (k := 3) (hR2 _)) (And.intro (And.intro (Nat.zero_le _) (Nat.zero_le _)) (fun zq h' hpo => ?_)))
      obtain ⟨rfl, F, rfl, u1, u2⟩ := hpo
      refine And.intro ?_ ⟨Or.inl rfl, Nat.le_refl _, Nat.le_refl _⟩
      have eX : y_old a m N b' M q = .inl (y_fl a m q 3) := by
        unfold y_old
        rw [if_pos e, e2]
      rw [hPo, eX]
      exact ⟨rfl, F, rfl, Or.inr ⟨_, u1⟩, u2⟩
    | some k =>
      have h1 := y_fd_lt _ _ e2
      have h2 : ∀ k, k < 9 → ¬ nI k = -1 := by decide +kernel
      refine And.intro (fun _ => ?_) (fun c => absurd (show x_up f 501 (nI to).toNatClampNeg (nI k) 501 (nI to).toNatClampNeg = -1 from c) (by rw [ev]; exact h2 k (by omega)))
      show ∃ P, x_Ct 197 (d + 6) [.ref 500] (x_up f 501 (nI to).toNatClampNeg (nI k), g, x_HR r t, dm, n) P ∧ _
      rw [ec]
      refine Exists.intro _ (And.intro (m_ahd hT (hR2 _) (by rw [s1]; decide)) (And.intro (And.intro (Nat.zero_le _) (Nat.zero_le _)) (fun zq h' hpo => ?_)))
      obtain ⟨rfl, F, rfl, u1, u2, u3⟩ := hpo
      refine And.intro ?_ ⟨Or.inr rfl, Nat.le_refl _, Nat.le_refl _⟩
      have eX : y_old a m N b' M q = .inr (k, y_nxt a m q) := by
        unfold y_old
        rw [if_pos e, e2]
      rw [hPo, eX]
      exact ⟨rfl, F, rfl, u3, u1⟩
end C87
