/-! what the class's reader takes -/
theorem x_Ct_mono {i d : Nat} {As : List Value} {h : xH} {P P' : Option Value → xH → Prop} (hc : x_Ct i d As h P) (hm : ∀ z h', P z h' → P' z h') : x_Ct i d As h P' := by
  intro l D ad ac sz p e h1 h2 h3 s m args below h4 h5 h6 h7
  obtain ⟨k, o, a1, a2, a3, ⟨⟨r, h', ad', ac', b1, b2, b3⟩, b4⟩, a5⟩ := hc l D ad ac sz p e h1 h2 h3 s m args below h4 h5 h6 h7
  exact ⟨k, o, a1, a2, a3, ⟨⟨r, h', ad', ac', b1, hm _ _ b2, b3⟩, b4⟩, a5⟩
def x_RC (a : Nat → Int32) (m q : Nat) (F : Nat → Nat → Int32) (G : Nat → Nat → Int64) : Prop := F 11 = a ∧ y_KC a m q (F 10) (G 10 5)
def y_TP (a : Nat → Int32) (m : Nat) : Prop := m ≤ 900 ∧ ∀ k, k < m → y_byt (a k)
def x_f10 (f : Nat → Nat → Int32) (g : Nat → Nat → Int64) (F : Nat → Nat → Int32) (G : Nat → Nat → Int64) : Prop := (∀ c, c ≠ 10 → F c = f c) ∧ ∀ c, c ≠ 10 → G c = g c
def x_FL (F : Nat → Nat → Int32) (e : Nat × Nat) : Prop := F 10 10 = nI e.1 ∧ F 10 11 = nI e.2
def x_PT {β : Type} (f : Nat → Nat → Int32) (g : Nat → Nat → Int64) (ρ : Nat → Nat → Option Nat) (dm : List Nat) (n : Nat) (X : xF β) (Q : β → (Nat → Nat → Int32) → (Nat → Nat → Int64) → Prop) (z : Option Value) (h' : xH) : Prop := match X with
  | .inl e => z = some (.int 0) ∧ ∃ F G, h' = (F, G, ρ, dm, n) ∧ x_f10 f g F G ∧ x_FL F e
  | .inr w => z = some (.int 1) ∧ ∃ F G, h' = (F, G, ρ, dm, n) ∧ x_f10 f g F G ∧ Q w F G
theorem x_f10_r (f : Nat → Nat → Int32) (g : Nat → Nat → Int64) : x_f10 f g f g := ⟨fun _ _ => rfl, fun _ _ => rfl⟩
theorem x_f10_t {f F F2 : Nat → Nat → Int32} {g G G2 : Nat → Nat → Int64} (h1 : x_f10 f g F G) (h2 : x_f10 F G F2 G2) : x_f10 f g F2 G2 := ⟨fun c hc => (h2.1 c hc).trans (h1.1 c hc), fun c hc => (h2.2 c hc).trans (h1.2 c hc)⟩
section C77
variable {β : Type} {f : Nat → Nat → Int32} {g : Nat → Nat → Int64} {r t : Nat} {dm : List Nat} {n d N : Nat} {v : xV} {ρ : Nat → Nat → Option Nat} {a : Nat → Int32} {m q : Nat} {X : xF β} {Q : β → (Nat → Nat → Int32) → (Nat → Nat → Int64) → Prop} {z : Option Value} {h' : xH} {e : Nat × Nat} {w : β}
theorem x_PT_l (hX : X = .inl e) (h : x_PT f g ρ dm n X Q z h') : z = some (.int 0) ∧ ∃ F G, h' = (F, G, ρ, dm, n) ∧ x_f10 f g F G ∧ x_FL F e := by
  subst hX
  exact h
theorem x_PT_r (hX : X = .inr w) (h : x_PT f g ρ dm n X Q z h') : z = some (.int 1) ∧ ∃ F G, h' = (F, G, ρ, dm, n) ∧ x_f10 f g F G ∧ Q w F G := by
  subst hX
  exact h
theorem x_PT_L {F : Nat → Nat → Int32} {G : Nat → Nat → Int64} (hX : X = .inl e) (h1 : x_f10 f g F G) (h2 : x_FL F e) : x_PT f g ρ dm n X Q (some (.int 0)) (F, G, ρ, dm, n) := by
  subst hX
  exact ⟨rfl, F, G, rfl, h1, h2⟩
theorem x_PT_R {F : Nat → Nat → Int32} {G : Nat → Nat → Int64} (hX : X = .inr w) (h1 : x_f10 f g F G) (h2 : Q w F G) : x_PT f g ρ dm n X Q (some (.int 1)) (F, G, ρ, dm, n) := by
  subst hX
  exact ⟨rfl, F, G, rfl, h1, h2⟩
theorem c_adv (hT : y_TP a m) (hR : x_RC a m q f g) (h3 : y_sa a m q ≠ 3) (h4 : y_sa a m q ≠ 4) : x_Ct 82 (d + 1) [.ref 10] (f, g, x_HR r t, dm, n) (fun z h' => z = none ∧ ∃ F G, h' = (F, G, x_HR r t, dm, n) ∧ x_f10 f g F G ∧ (∀ j, 9 ≤ j → F 10 j = f 10 j) ∧ x_RC a m (y_nxt a m q) F G) := by
  obtain ⟨rfl, hK⟩ := hR
  have e := c_advance (d := d) (n := n) (dm := dm) (r := r) (t := t) (f := f) (g := g) hK.1 hT.1 (hK.2.2.2.2.1 h3 h4) (y_end_le h3).2 hT.2
  refine x_Ct_mono e (fun z h' hp => ?_)
  obtain ⟨h1, F, G, h2, h5, h6, h7, h8⟩ := hp
  exact ⟨h1, F, G, h2, ⟨h5, h6⟩, h7, h5 11 (by decide), h8⟩
theorem c_fail {k : Nat} (hR : x_RC a m q f g) : x_Ct 85 d [.ref 10, .int (nI k)] (f, g, x_HR r t, dm, n) (fun z h' => z = some (.int 0) ∧ ∃ F, h' = (F, g, x_HR r t, dm, n) ∧ x_f10 f g F g ∧ x_FL F (y_fl a m q k)) := by
  obtain ⟨rfl, hK⟩ := hR
  refine x_Ct_w (by decide) (Nat.le_of_ble_eq_true rfl) ok85 [] 6 ?_
  refine And.intro (fun c => ?_) (fun c => ?_)
  · have c : ¬ f 10 4 = 4 := c
    rw [hK.2.2.1] at c
    refine And.intro ?_ ⟨Or.inl rfl, Nat.le_refl _, Nat.le_refl _⟩
    refine ⟨rfl, _, rfl, ⟨fun c hc => (x_up_k hc).trans (x_up_k hc), fun _ _ => rfl⟩, ?_, ?_⟩
    · unfold y_fl
      rw [if_neg c]
      rfl
    · exact hK.2.1
  · have c : f 10 4 = 4 := c
    rw [hK.2.2.1] at c
    refine And.intro ?_ ⟨Or.inl rfl, Nat.le_refl _, Nat.le_refl _⟩
    refine ⟨rfl, _, rfl, ⟨fun c hc => (x_up_k hc).trans (x_up_k hc), fun _ _ => rfl⟩, ?_, ?_⟩
    · unfold y_fl
      rw [if_pos c]
      rfl
    · exact hK.2.1
theorem c_takeSign {c : Int32} (hT : y_TP a m) (hR : x_RC a m q f g) (h3 : c ≠ 3) (h4 : c ≠ 4) : x_Ct 86 (d + 2) [.ref 10, .int c] (f, g, x_HR r t, dm, n) (x_PT f g (x_HR r t) dm n (y_sgn a m c q) (fun q' F G => x_RC a m q' F G ∧ F 10 9 = f 10 9)) := by
  refine x_Ct_w (by decide) (Nat.le_of_ble_eq_true rfl) ok86 [] 6 ?_
  refine And.intro (fun k => ?_) (fun k => ?_)
  · have k : f 10 4 = c := k
    rw [hR.2.2.2.1] at k
    have hs := y_tk_sa k h4
    refine Exists.intro _ (And.intro (c_adv hT hR (by rw [hs]; exact h3) (by rw [hs]; exact h4)) (And.intro (And.intro (Nat.zero_le _) (Nat.zero_le _)) (fun q h' hpo => ?_)))
    obtain ⟨rfl, F, G, rfl, u1, u2, u3⟩ := hpo
    refine And.intro ?_ ⟨Or.inr rfl, Nat.le_refl _, Nat.le_refl _⟩
    exact x_PT_R (if_pos k) u1 ⟨u3, u2 9 (by decide)⟩
  · have k : ¬ f 10 4 = c := k
    rw [hR.2.2.2.1] at k
    refine Exists.intro _ (And.intro (c_fail (k := 2) hR) (And.intro (And.intro (Nat.zero_le _) (Nat.zero_le _)) (fun q h' hpo => ?_)))
    obtain ⟨rfl, F, rfl, u1, u2⟩ := hpo
    refine And.intro ?_ ⟨Or.inl rfl, Nat.le_refl _, Nat.le_refl _⟩
    exact x_PT_L (if_neg k) u1 u2
theorem c_takeNumber {lo hi : Nat} (hlo : lo < 2 ^ 31) (hhi : hi < 2 ^ 31) (hT : y_TP a m) (hR : x_RC a m q f g) : x_Ct 88 (d + 2) [.ref 10, .int (nI lo), .int (nI hi)] (f, g, x_HR r t, dm, n) (x_PT f g (x_HR r t) dm n (y_nbr a m lo hi q) (fun z F G => x_RC a m z.2 F G ∧ F 10 9 = nI z.1)) := by
  refine x_Ct_w (by decide) (Nat.le_of_ble_eq_true rfl) ok88 [30, 36] 6 ?_
  refine And.intro (fun k => ?_) (fun k => ?_)
  · have k : f 10 4 = 2 := k
    rw [hR.2.2.2.1] at k
    have hs := y_tk_sa k (by decide)
    have h8 : f 10 8 = nI (y_nv a m q) := hR.2.2.2.2.2.2.2.2 k
    have hlt : y_nv a m q < 2 ^ 31 := by
      have h9 : y_end a m q - q ≤ 4 := by
        unfold y_tk at k
        by_cases w : y_sa a m q = 2 ∧ 4 < y_end a m q - q
        · rw [if_pos w] at k
          exact absurd k (by decide)
        · rw [hs] at w
          by_cases w2 : 4 < y_end a m q - q
          · exact absurd ⟨rfl, w2⟩ w
          · omega
      have h10 := y_num_lt (a := a) (q := q) (y_end a m q - q) (fun k hk => (y_dgs hT.2 hs k hk).2.1)
      have h11 : 10 ^ (y_end a m q - q) ≤ 10 ^ 4 := Nat.pow_le_pow_right (by decide) h9
      unfold y_nv
      omega
    have bad : (y_nv a m q < lo ∨ hi < y_nv a m q) → x_J 88 (d + 2) (x_PT f g (x_HR r t) dm n (y_nbr a m lo hi q) (fun z F G => x_RC a m z.2 F G ∧ F 10 9 = nI z.1)) 30 [some (.ref 10), some (.int (nI lo)), some (.int (nI hi))] [] (f, g, x_HR r t, dm, n) 0 0 := by
      intro w
      refine x_wp_ok ok88 [] 6 ?_
      refine Exists.intro _ (And.intro (c_fail (k := 4) hR) (And.intro (And.intro (Nat.zero_le _) (Nat.zero_le _)) (fun q h' hpo => ?_)))
      obtain ⟨rfl, F, rfl, u1, u2⟩ := hpo
      refine And.intro ?_ ⟨Or.inl rfl, Nat.le_refl _, Nat.le_refl _⟩
      exact x_PT_L ((if_pos k).trans (if_pos w)) u1 u2
    refine And.intro (fun k1 => ?_) (fun k1 => ?_)
    · have k1 : f 10 8 < nI lo := k1
      rw [h8, nI_ltI hlt hlo] at k1
      exact bad (Or.inl k1)
    · have k1 : ¬ f 10 8 < nI lo := k1
      rw [h8, nI_ltI hlt hlo] at k1
      refine And.intro (fun k2 => ?_) (fun k2 => ?_)
      · have k2 : f 10 8 ≤ nI hi := k2
        rw [h8, nI_leI hlt hhi] at k2
        refine x_wp_ok ok88 [] 6 ?_
        have hR2 : x_RC a m q (x_up f 10 9 (f 10 8)) g := by
          refine ⟨(x_up_k (by decide)).trans hR.1, ?_⟩
          exact hR.2
        refine Exists.intro _ (And.intro (c_adv hT hR2 (by rw [hs]; decide) (by rw [hs]; decide)) (And.intro (And.intro (Nat.zero_le _) (Nat.zero_le _)) (fun q h' hpo => ?_)))
        obtain ⟨rfl, F, G, rfl, u1, u2, u3⟩ := hpo
        refine And.intro ?_ ⟨Or.inr rfl, Nat.le_refl _, Nat.le_refl _⟩
        refine x_PT_R ((if_pos k).trans (if_neg (by omega))) ⟨fun c hc => (u1.1 c hc).trans (x_up_k hc), u1.2⟩ ⟨u3, ?_⟩
        rw [u2 9 (by decide), x_up_s]
        exact h8
      · have k2 : ¬ f 10 8 ≤ nI hi := k2
        rw [h8, nI_leI hlt hhi] at k2
        exact bad (Or.inr (by omega))
  · have k : ¬ f 10 4 = 2 := k
    rw [hR.2.2.2.1] at k
    refine Exists.intro _ (And.intro (c_fail (k := 2) hR) (And.intro (And.intro (Nat.zero_le _) (Nat.zero_le _)) (fun q h' hpo => ?_)))
    obtain ⟨rfl, F, rfl, u1, u2⟩ := hpo
    refine And.intro ?_ ⟨Or.inl rfl, Nat.le_refl _, Nat.le_refl _⟩
    exact x_PT_L (if_neg k) u1 u2
/-- the words' numbers, the class's and the model's -/
theorem y_tr_eq (a : Nat → Int32) (m q : Nat) {w : Nat} (hw : w < 25) : y_tr (y_wm a m q) = y_tr (nI w) ↔ y_wm a m q = nI w := by
  constructor
  · intro h
    have tab : ∀ i, i < 25 → ∀ j, j < 25 → y_tr (nI i) = y_tr (nI j) → i = j := by decide +kernel
    have no : ∀ j, j < 25 → ¬ y_tr (-1) = y_tr (nI j) := by decide +kernel
    rcases y_wm_rg a m q with e | ⟨i, hi, e⟩
    · rw [e] at h
      exact absurd h (no w hw)
    · rw [e] at h
      rw [e, tab i hi w hw h]
  · intro h
    rw [h]
theorem y_tr_no (a : Nat → Int32) (m q : Nat) : y_tr (y_wm a m q) = -1 ↔ y_wm a m q = -1 := by
  constructor
  · intro h
    have no : ∀ j, j < 25 → ¬ y_tr (nI j) = -1 := by decide +kernel
    rcases y_wm_rg a m q with e | ⟨i, hi, e⟩
    · exact e
    · rw [e] at h
      exact absurd h (no i hi)
  · intro h
    rw [h]
    rfl
theorem c_takeWord {w : Nat} {c : Int32} (hc : c = y_tr (nI w)) (hw : w < 25) (hT : y_TP a m) (hR : x_RC a m q f g) : x_Ct 87 (d + 2) [.ref 10, .int c] (f, g, x_HR r t, dm, n) (x_PT f g (x_HR r t) dm n (y_wrd a m (nI w) q) (fun q' F G => x_RC a m q' F G ∧ F 10 9 = f 10 9)) := by
  have no : ¬ nI w = -1 := by
    have : ∀ j, j < 25 → ¬ nI j = -1 := by decide +kernel
    exact this w hw
  have bad : ¬ y_wm a m q = nI w → x_J 87 (d + 2) (x_PT f g (x_HR r t) dm n (y_wrd a m (nI w) q) (fun q' F G => x_RC a m q' F G ∧ F 10 9 = f 10 9)) 16 [some (.ref 10), some (.int c)] [] (f, g, x_HR r t, dm, n) 0 0 := by
    intro k
    refine x_wp_ok ok87 [] 6 ?_
    refine Exists.intro _ (And.intro (c_fail (k := 2) hR) (And.intro (And.intro (Nat.zero_le _) (Nat.zero_le _)) (fun q h' hpo => ?_)))
    obtain ⟨rfl, F, rfl, u1, u2⟩ := hpo
    refine And.intro ?_ ⟨Or.inl rfl, Nat.le_refl _, Nat.le_refl _⟩
    exact x_PT_L (if_neg k) u1 u2
  refine x_Ct_w (by decide) (Nat.le_of_ble_eq_true rfl) ok87 [16] 6 ?_
  refine And.intro (fun k => ?_) (fun k => ?_)
  · have k : ¬ f 10 4 = 1 := k
    rw [hR.2.2.2.1] at k
    refine bad (fun e => ?_)
    have h1 := y_wm_sa (a := a) (m := m) (q := q) (by rw [e]; exact no)
    refine k ?_
    unfold y_tk
    rw [if_neg (fun e => by rw [h1] at e; exact absurd e.1 (by decide))]
    exact h1
  · refine And.intro (fun k2 => ?_) (fun k2 => ?_)
    · have k2 : f 10 7 = c := k2
      rw [hR.2.2.2.2.1, hc, y_tr_eq a m q hw] at k2
      have h1 := y_wm_sa (a := a) (m := m) (q := q) (by rw [k2]; exact no)
      refine Exists.intro _ (And.intro (c_adv hT hR (by rw [h1]; decide) (by rw [h1]; decide)) (And.intro (And.intro (Nat.zero_le _) (Nat.zero_le _)) (fun q h' hpo => ?_)))
      obtain ⟨rfl, F, G, rfl, u1, u2, u3⟩ := hpo
      refine And.intro ?_ ⟨Or.inr rfl, Nat.le_refl _, Nat.le_refl _⟩
      exact x_PT_R (if_pos k2) u1 ⟨u3, u2 9 (by decide)⟩
    · have k2 : ¬ f 10 7 = c := k2
      rw [hR.2.2.2.2.1, hc, y_tr_eq a m q hw] at k2
      exact bad k2
theorem c_isName (hR : x_RC a m q f g) (hm : m ≤ 900) (hq : q ≤ m) : x_V 89 d [.ref 10] (f, g, x_HR r t, dm, n) (.int (x_bo (y_nm a m q))) (f, g, x_HR r t, dm, n) := by
  have e1 : f 10 4 = 1 ↔ y_sa a m q = 1 := by
    rw [hR.2.2.2.1]
    constructor
    · intro h
      exact y_tk_sa h (by decide)
    · intro h
      unfold y_tk
      rw [if_neg (fun e => by rw [h] at e; exact absurd e.1 (by decide))]
      exact h
  refine x_Ct_w (by decide) (Nat.le_of_ble_eq_true rfl) ok89 [] 6 ?_
  refine And.intro (fun k => ?_) (fun k => ?_)
  · have k : ¬ f 10 4 = 1 := k
    rw [e1] at k
    have e : y_nm a m q = false := by
      unfold y_nm
      rw [decide_eq_false k]
      rfl
    rw [e]
    exact And.intro ⟨rfl, rfl⟩ ⟨Or.inl rfl, Nat.le_refl _, Nat.le_refl _⟩
  · have k : f 10 4 = 1 := k
    rw [e1] at k
    have h6 := hR.2.2.2.2.2.2.1 k
    have h7 := y_end_le (a := a) (m := m) (q := q) (by rw [k]; decide)
    refine And.intro (fun k2 => ?_) (fun k2 => ?_)
    · have k2 : ¬ f 10 7 = -1 := k2
      rw [hR.2.2.2.2.1, y_tr_no] at k2
      have e : y_nm a m q = false := by
        unfold y_nm
        rw [decide_eq_true k, decide_eq_false k2]
        rfl
      rw [e]
      exact And.intro ⟨rfl, rfl⟩ ⟨Or.inl rfl, Nat.le_refl _, Nat.le_refl _⟩
    · have k2 : f 10 7 = -1 := k2
      rw [hR.2.2.2.2.1, y_tr_no] at k2
      refine And.intro (fun k3 => ?_) (fun k3 => ?_)
      · have k3 : nI 8 < f 10 6 := k3
        rw [h6, nI_ltI (by omega) (by omega)] at k3
        have e : y_nm a m q = false := by
          unfold y_nm
          rw [decide_eq_true k, decide_eq_true k2, decide_eq_false (by omega)]
          rfl
        rw [e]
        exact And.intro ⟨rfl, rfl⟩ ⟨Or.inl rfl, Nat.le_refl _, Nat.le_refl _⟩
      · have k3 : ¬ nI 8 < f 10 6 := k3
        rw [h6, nI_ltI (by omega) (by omega)] at k3
        have e : y_nm a m q = true := by
          unfold y_nm
          rw [decide_eq_true k, decide_eq_true k2, decide_eq_true (by omega)]
          rfl
        rw [e]
        exact And.intro ⟨rfl, rfl⟩ ⟨Or.inr rfl, Nat.le_refl _, Nat.le_refl _⟩
end C77
