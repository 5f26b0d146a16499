/-! land(), the class's, and what is forgotten behind it -/
def x_fl0 (L t : Nat) (f : Nat → Nat → Int32) (g : Nat → Nat → Int64) (F : Nat → Nat → Int32) (G : Nat → Nat → Int64) : Prop := (∀ j, j ≠ 0 → j ≠ 5 → j ≠ 6 → j ≠ 7 → F 0 j = f 0 j) ∧ (∀ c, c ≠ 0 → c ≠ 10 → c ≠ t → c < 600 → ¬ (L ≤ c ∧ c ≤ L + 9) → F c = f c) ∧ ∀ c, c ≠ 10 → c < 600 → ¬ (L ≤ c ∧ c ≤ L + 9) → G c = g c
def y_land (a : Nat → Int32) (k : Nat) : xF xL := y_parts a k k y_S0 (y_skip a k 0)
def x_QCl (r t L : Nat) (f : Nat → Nat → Int32) (g : Nat → Nat → Int64) (dm : List Nat) (n k : Nat) (x : Int32) (z : Option Value) (h' : xH) : Prop := match x_wi x 0 (nI k) with
  | false => z = some (.int (-1)) ∧ h' = (x_up f 0 0 1, g, x_HR r t, dm, n)
  | true => match y_land (f 11) (x_c x) with
    | .inl e => z = some (.int (-1)) ∧ ∃ F G, h' = (F, G, x_HR r t, dm, n) ∧ x_fl0 L t f g F G ∧ (F 0 0 = 9 ∧ F 0 5 = 0 ∧ F 0 6 = nI e.1 ∧ F 0 7 = nI e.2) ∧ F t = f t
    | .inr S => z = some (.int (nI (S.1 2 0 0))) ∧ ∃ F G, h' = (F, G, x_HR L t, dm, n) ∧ x_fl0 L t f g F G ∧ (F 0 0 = 0 ∧ F 0 5 = 0 ∧ F 0 6 = 0 ∧ F 0 7 = -1) ∧ v_C F G L (y_lv0 S.1) ∧ v_B (y_lv0 S.1) ∧ y_NR (G (L + 2)) S.1 S.2.1 ∧ F t 0 = 0
/-- a heap that a smaller one may stand for -/
def x_ct (P : Option Value → xH → Prop) (dm : List Nat) (z : Option Value) (h' : xH) : Prop := ∃ h2 l, P z h2 ∧ x_d h' = x_d h2 ++ l ∧ (∀ k ∈ x_d h2, x_i h2 k = x_i h' k ∧ x_l h2 k = x_l h' k ∧ x_r h2 k = x_r h' k) ∧ (∀ k ∈ x_d h2, ∀ j q, x_r h2 k j = some q → x_in1 (x_d h2) q) ∧ (∀ k ∈ dm, k ∈ x_d h2) ∧ ∀ k, z ≠ some (.ref k)
theorem x_ct_i {P : Option Value → xH → Prop} {dm l : List Nat} {f : Nat → Nat → Int32} {g : Nat → Nat → Int64} {ρ ρ2 : Nat → Nat → Option Nat} {n n2 : Nat} {x : Int32} (hp : P (some (.int x)) (f, g, ρ2, dm, n2)) (hρ : ∀ k ∈ dm, ρ2 k = ρ k) (hr : ∀ k ∈ dm, ∀ j q, ρ2 k j = some q → x_in1 dm q) : x_ct P dm (some (.int x)) (f, g, ρ, dm ++ l, n) := ⟨(f, g, ρ2, dm, n2), l, hp, rfl, fun k hk => ⟨rfl, rfl, hρ k hk⟩, hr, fun _ h => h, fun _ h => by cases h⟩
section C84
variable {f : Nat → Nat → Int32} {g : Nat → Nat → Int64} {r t : Nat} {dm : List Nat} {n d L : Nat} {v : xV} {a : Nat → Int32} {m q : Nat} {N : Nat → Int64} {S : xL} {ρ : Nat → Nat → Option Nat} {z : Option Value} {h' : xH} {e : Nat × Nat} {F : Nat → Nat → Int32} {G : Nat → Nat → Int64}
theorem x_QCl_0 {k : Nat} {x : Int32} (h : x_wi x 0 (nI k) = false) : x_QCl r t L f g dm n k x (some (.int (-1))) (x_up f 0 0 1, g, x_HR r t, dm, n) := by
  unfold x_QCl
  rw [h]
  exact ⟨rfl, rfl⟩
theorem x_QCl_1 {k : Nat} {x : Int32} (h : x_wi x 0 (nI k) = true) (hX : y_land (f 11) (x_c x) = .inl e) (h1 : x_fl0 L t f g F G) (h2 : F 0 0 = 9 ∧ F 0 5 = 0 ∧ F 0 6 = nI e.1 ∧ F 0 7 = nI e.2) (h3 : F t = f t) : x_QCl r t L f g dm n k x (some (.int (-1))) (F, G, x_HR r t, dm, n) := by
  unfold x_QCl
  rw [h, hX]
  exact ⟨rfl, F, G, rfl, h1, h2, h3⟩
theorem x_QCl_2 {k : Nat} {x : Int32} (h : x_wi x 0 (nI k) = true) (hX : y_land (f 11) (x_c x) = .inr S) (h1 : x_fl0 L t f g F G) (h2 : F 0 0 = 0 ∧ F 0 5 = 0 ∧ F 0 6 = 0 ∧ F 0 7 = -1) (h3 : v_C F G L (y_lv0 S.1)) (h4 : v_B (y_lv0 S.1)) (h5 : y_NR (G (L + 2)) S.1 S.2.1) (h6 : F t 0 = 0) : x_QCl r t L f g dm n k x (some (.int (nI (S.1 2 0 0)))) (F, G, x_HR L t, dm, n) := by
  unfold x_QCl
  rw [h, hX]
  exact ⟨rfl, F, G, rfl, h1, h2, h3, h4, h5, h6⟩
theorem c_landU_12_32 {k : Nat} {x : Int32} (hk : f 0 5 = nI k) (hk9 : k ≤ 900) (hb : ∀ j, j < k → y_byt (f 11 j)) (h600 : 600 ∉ dm) (h601 : 601 ∉ dm) (h610 : 610 ∉ dm) (hr : ∀ r, r = 12 ∨ r = 22 → ∀ k ∈ dm, ∀ j q, x_HR r 32 k j = some q → x_in1 dm q) : x_Ct 105 (d + 6) [.ref 0, .int x] (f, g, x_HR 12 32, dm, 600) (x_ct (x_QCl 12 32 22 f g dm n k x) dm) := by
  obtain ⟨Po, hPo⟩ : ∃ Po : Option Value → xH → Prop, Po = x_ct (x_QCl 12 32 22 f g dm n k x) dm := ⟨_, rfl⟩
  rw [← hPo]
  have hL : (22 : Nat) = 12 ∨ (22 : Nat) = 22 := by decide
  refine x_Ct_w (by decide) (Nat.le_of_ble_eq_true rfl) ok105 [] 6 ?_
  show ∃ P, x_Ct 161 (d + 5) [.int x, .int 0, .int (f 0 5)] _ P ∧ _
  rw [hk]
  refine Exists.intro _ (And.intro c_within (And.intro (And.intro (Nat.zero_le _) (Nat.zero_le _)) (fun q h' hpo => ?_)))
  obtain ⟨rfl, rfl⟩ := hpo
  cases hw : x_wi x 0 (nI k) with
  | false =>
    refine And.intro (fun c => absurd rfl c) (fun _ => ?_)
    refine Exists.intro _ (And.intro (c_refuse (w := 1)) (And.intro (And.intro (Nat.zero_le _) (Nat.zero_le _)) (fun q h' hpo => ?_)))
    obtain ⟨rfl, rfl⟩ := hpo
    refine And.intro ?_ ⟨trivial, Nat.le_of_ble_eq_true rfl, Nat.le_of_ble_eq_true rfl⟩
    rw [hPo]
    have e := x_ct_i (P := x_QCl 12 32 22 f g dm n k x) (l := []) (ρ := x_HR 12 32) (ρ2 := x_HR 12 32) (n := 600) (x_QCl_0 hw) (fun _ _ => rfl) (hr 12 (by decide))
    rw [List.append_nil] at e
    exact e
  | true =>
    obtain ⟨j, -, hj, rfl⟩ := x_wi_t (lo := 0) (hi := k) hw (by omega) (Nat.zero_le _)
    have hc : x_c (nI j) = j := nI_clamp (by omega)
    obtain ⟨a, ha⟩ : ∃ a, a = f 11 := ⟨_, rfl⟩
    have hT : y_TP a j := ⟨by omega, fun i hi => by rw [ha]; exact hb i (by omega)⟩
    have hq := (y_skip_sp a (Nat.zero_le j)).2
    refine And.intro (fun _ => ?_) (fun c => absurd (show (1 : Int32) = 0 from c) (by decide))
    refine Exists.intro _ (And.intro (c_open (k := j) (by omega) (fun i hi => hb i (by omega))) (And.intro (And.intro (Nat.zero_le _) (Nat.zero_le _)) (fun zq h' hpo => ?_)))
    obtain ⟨rfl, F1, G1, rfl, u1, u2⟩ := hpo
    rw [← ha] at u2
    refine Exists.intro _ (And.intro c_clear_22 (And.intro (And.intro (Nat.zero_le _) (Nat.zero_le _)) (fun zq h' hpo => ?_)))
    obtain ⟨rfl, F2, G2, rfl, w1⟩ := hpo
    refine And.intro ⟨rfl, h600, show (600 : Nat) < 1000 by decide⟩ ?_
    refine And.intro ⟨show 0 + 1 ≤ x_mc 105 by decide, show 0 + 3 ≤ x_ms 105 by decide⟩ ?_
    have n601 : 601 ∉ dm ++ [600] := by
      intro h
      rcases List.mem_append.mp h with h | h
      · exact h601 h
      · exact absurd (List.mem_singleton.mp h) (by decide)
    refine Exists.intro _ (And.intro (c_initL_22 (f := va_up F2 600 (fun _ => 0)) (g := va_up G2 600 (fun _ => 0)) (dm := dm ++ [600]) n601) (And.intro (And.intro (Nat.le_of_ble_eq_true rfl) (Nat.le_of_ble_eq_true rfl)) (fun zq h' hpo => ?_)))
    obtain ⟨rfl, rfl⟩ := hpo
    obtain ⟨F3, hF3⟩ : ∃ F3 : Nat → Nat → Int32, F3 = va_up (va_up F2 600 (fun _ => 0)) 601 (fun _ => 0) := ⟨_, rfl⟩
    obtain ⟨G3, hG3⟩ : ∃ G3 : Nat → Nat → Int64, G3 = va_up (va_up G2 600 (fun _ => 0)) 601 (fun _ => 0) := ⟨_, rfl⟩
    have f3 : ∀ c, c < 600 → F3 c = F2 c := fun c hc => by rw [hF3, x_un (by omega), x_un (by omega)]
    have g3 : ∀ c, c < 600 → G3 c = G2 c := fun c hc => by rw [hG3, x_un (by omega), x_un (by omega)]
    have f2 : ∀ c, ¬ (22 ≤ c ∧ c ≤ 22 + 9) → F2 c = F1 c := fun c hc => w1.2.2.2.2.2.1 c (by omega) (by omega) (by omega) (by omega) (by omega)
    have g2 : ∀ c, ¬ (22 ≤ c ∧ c ≤ 22 + 9) → G2 c = G1 c := fun c hc => w1.2.2.2.2.2.2 c (by omega)
    have hS : x_LS 22 a j y_S0 (y_skip a j 0) F3 G3 := by
      refine ⟨⟨?_, ?_⟩, v_CA_fr (v_CA_clear w1) (fun c _ h2 => f3 c (by omega)) (g3 _ (by decide)), ⟨fun i hi => absurd hi (Nat.not_lt_zero _), fun i hi => absurd hi (Nat.not_lt_zero _), fun i hi => absurd hi (Nat.not_lt_zero _)⟩, fun i hi => ?_⟩
      · rw [f3 11 (by decide), f2 11 (by decide)]
        exact u2.1
      · rw [f3 10 (by decide), f2 10 (by decide), g3 10 (by decide), g2 10 (by decide)]
        exact u2.2
      · rw [hF3, x_us]
        rfl
    show ∃ P, x_Ct 36 (d + 5) [.ref 600] (va_up (va_up F2 600 (fun _ => 0)) 601 (fun _ => 0), va_up (va_up G2 600 (fun _ => 0)) 601 (fun _ => 0), x_HR 12 32, dm ++ [600] ++ [601], 602) P ∧ _
    rw [← hF3, ← hG3]
    refine Exists.intro _ (And.intro (c_isTakenL_22 (j0 := j) hT y_v0_BA hS hq (Nat.sub_le _ _)) (And.intro (And.intro (Nat.le_of_ble_eq_true rfl) (Nat.le_of_ble_eq_true rfl)) (fun zq h' hpo => ?_)))
    have fr : ∀ F4 G4, x_fL 22 F3 G3 F4 G4 → (∀ c, c ≠ 10 → c < 600 → ¬ (22 ≤ c ∧ c ≤ 22 + 9) → F4 c = f c) ∧ ∀ c, c ≠ 10 → c < 600 → ¬ (22 ≤ c ∧ c ≤ 22 + 9) → G4 c = g c := by
      intro F4 G4 h
      refine ⟨fun c c1 c2 c3 => ?_, fun c c1 c2 c3 => ?_⟩
      · rw [h.1 c c1 (by omega) c3, f3 c c2, f2 c c3, u1.1 c c1]
      · rw [h.2 c c1 c3, g3 c c2, g2 c c3, u1.2 c c1]
    have hρ : ∀ k ∈ dm, x_HR 22 32 k = x_up (x_up (x_HR 12 32) 0 8 (some 22)) 0 9 (some 12) k := fun k hk => (x_HR_sw (r := 12) (t := 32) (L := 22) rfl rfl (fun e => h600 (e ▸ hk)) (fun e => h610 (e ▸ hk))).symm
    have hX : y_land (f 11) (x_c (nI j)) = y_parts a j j y_S0 (y_skip a j 0) := by
      rw [hc, ← ha]
      rfl
    cases e1 : y_parts a j j y_S0 (y_skip a j 0) with
    | inl e =>
      rw [e1] at hpo
      obtain ⟨rfl, F4, G4, rfl, o1, o2⟩ := hpo
      obtain ⟨fr1, fr2⟩ := fr F4 G4 o1
      refine Exists.intro _ (And.intro (c_endText (b := false)) (And.intro (And.intro (Nat.le_of_ble_eq_true rfl) (Nat.le_of_ble_eq_true rfl)) (fun zq h' hpo => ?_)))
      obtain ⟨rfl, rfl⟩ := hpo
      refine And.intro (fun c => absurd rfl c) (fun _ => ?_)
      refine Exists.intro _ (And.intro (c_refuse (w := 9)) (And.intro (And.intro (Nat.le_of_ble_eq_true rfl) (Nat.le_of_ble_eq_true rfl)) (fun zq h' hpo => ?_)))
      obtain ⟨rfl, rfl⟩ := hpo
      refine And.intro ?_ ⟨trivial, Nat.le_of_ble_eq_true rfl, Nat.le_of_ble_eq_true rfl⟩
      rw [hPo]
      show x_ct (x_QCl 12 32 22 f g dm n k (nI j)) dm (some (.int (-1))) (x_up (x_up (x_up (x_up F4 0 5 0) 0 6 (F4 10 10)) 0 7 (F4 10 11)) 0 0 9, G4, x_HR 12 32, dm ++ [600] ++ [601], 602)
      rw [List.append_assoc]
      refine x_ct_i (ρ2 := x_HR 12 32) (n2 := n) (x_QCl_1 hw (hX.trans e1) ⟨fun i i0 i5 i6 i7 => ?_, fun c c0 c1 c2 c3 c4 => ?_, fr2⟩ ⟨rfl, rfl, o2.1, o2.2⟩ ?_) (fun _ _ => rfl) (hr 12 (by decide))
      · rw [x_up_j i0, x_up_j i7, x_up_j i6, x_up_j i5, fr1 0 (by decide) (by decide) (by decide)]
      · rw [x_up_k c0, x_up_k c0, x_up_k c0, x_up_k c0]
        exact fr1 c c1 c3 c4
      · rw [x_up_k (by decide), x_up_k (by decide), x_up_k (by decide), x_up_k (by decide)]
        exact fr1 32 (by decide) (by decide) (by decide)
    | inr S =>
      rw [e1] at hpo
      obtain ⟨rfl, F4, G4, rfl, o1, o2, o3, o4⟩ := hpo
      obtain ⟨fr1, fr2⟩ := fr F4 G4 o1
      have hP : F4 22 2 = nI (S.1 2 0 0) := (o2.1 2 0 0 ⟨rfl, rfl⟩).trans (congrArg nI (v_set_c (by decide)))
      refine Exists.intro _ (And.intro (c_endText (b := true)) (And.intro (And.intro (Nat.le_of_ble_eq_true rfl) (Nat.le_of_ble_eq_true rfl)) (fun zq h' hpo => ?_)))
      obtain ⟨rfl, rfl⟩ := hpo
      refine And.intro (fun _ => ?_) (fun c => absurd (show (1 : Int32) = 0 from c) (by decide))
      refine Exists.intro _ (And.intro (c_clearSr (t := 32) (by decide)) (And.intro (And.intro (Nat.le_of_ble_eq_true rfl) (Nat.le_of_ble_eq_true rfl)) (fun zq h' hpo => ?_)))
      obtain ⟨rfl, rfl⟩ := hpo
      refine Exists.intro _ (And.intro c_answer (And.intro (And.intro (Nat.le_of_ble_eq_true rfl) (Nat.le_of_ble_eq_true rfl)) (fun zq h' hpo => ?_)))
      obtain ⟨rfl, rfl⟩ := hpo
      refine And.intro ?_ ⟨trivial, Nat.le_of_ble_eq_true rfl, Nat.le_of_ble_eq_true rfl⟩
      rw [hPo]
      show x_ct (x_QCl 12 32 22 f g dm n k (nI j)) dm (some (.int (F4 22 2))) (x_up (x_up (x_up (x_up (x_up (x_up (x_up F4 0 5 0) 0 6 0) 0 7 (-1)) 32 0 0) 32 1 0) 32 2 0) 0 0 0, G4, x_up (x_up (x_HR 12 32) 0 8 (some 22)) 0 9 (some 12), dm ++ [600] ++ [601], 602)
      rw [hP, List.append_assoc]
      refine x_ct_i (ρ2 := x_HR 22 32) (n2 := n) (x_QCl_2 hw (hX.trans e1) ⟨fun i i0 i5 i6 i7 => ?_, fun c c0 c1 c2 c3 c4 => ?_, fr2⟩ ⟨rfl, rfl, rfl, rfl⟩ (v_C_fr o2 (fun c c1 c2 => ?_) rfl) o3 o4 rfl) hρ (hr 22 (by decide))
      · rw [x_up_j i0, x_up_k (by decide), x_up_k (by decide), x_up_k (by decide), x_up_j i7, x_up_j i6, x_up_j i5, fr1 0 (by decide) (by decide) (by decide)]
      · rw [x_up_k c0, x_up_k c2, x_up_k c2, x_up_k c2, x_up_k c0, x_up_k c0, x_up_k c0]
        exact fr1 c c1 c3 c4
      · rw [x_up_k (by omega), x_up_k (by omega), x_up_k (by omega), x_up_k (by omega), x_up_k (by omega), x_up_k (by omega), x_up_k (by omega)]
theorem c_land_12_32 {k : Nat} {x : Int32} (hk : f 0 5 = nI k) (hk9 : k ≤ 900) (hb : ∀ j, j < k → y_byt (f 11 j)) (h600 : 600 ∉ dm) (h601 : 601 ∉ dm) (h610 : 610 ∉ dm) (hr : ∀ r, r = 12 ∨ r = 22 → ∀ k ∈ dm, ∀ j q, x_HR r 32 k j = some q → x_in1 dm q) : x_Ct 105 (d + 6) [.ref 0, .int x] (f, g, x_HR 12 32, dm, n) (x_QCl 12 32 22 f g dm n k x) := x_Ct_cut (h := (f, g, x_HR 12 32, dm, 600)) (c_landU_12_32 hk hk9 hb h600 h601 h610 hr) (fun _ _ h => h)
theorem c_landU_12_39 {k : Nat} {x : Int32} (hk : f 0 5 = nI k) (hk9 : k ≤ 900) (hb : ∀ j, j < k → y_byt (f 11 j)) (h600 : 600 ∉ dm) (h601 : 601 ∉ dm) (h610 : 610 ∉ dm) (hr : ∀ r, r = 12 ∨ r = 22 → ∀ k ∈ dm, ∀ j q, x_HR r 39 k j = some q → x_in1 dm q) : x_Ct 105 (d + 6) [.ref 0, .int x] (f, g, x_HR 12 39, dm, 600) (x_ct (x_QCl 12 39 22 f g dm n k x) dm) := by
  obtain ⟨Po, hPo⟩ : ∃ Po : Option Value → xH → Prop, Po = x_ct (x_QCl 12 39 22 f g dm n k x) dm := ⟨_, rfl⟩
  rw [← hPo]
  have hL : (22 : Nat) = 12 ∨ (22 : Nat) = 22 := by decide
  refine x_Ct_w (by decide) (Nat.le_of_ble_eq_true rfl) ok105 [] 6 ?_
  show ∃ P, x_Ct 161 (d + 5) [.int x, .int 0, .int (f 0 5)] _ P ∧ _
  rw [hk]
  refine Exists.intro _ (And.intro c_within (And.intro (And.intro (Nat.zero_le _) (Nat.zero_le _)) (fun q h' hpo => ?_)))
  obtain ⟨rfl, rfl⟩ := hpo
  cases hw : x_wi x 0 (nI k) with
  | false =>
    refine And.intro (fun c => absurd rfl c) (fun _ => ?_)
    refine Exists.intro _ (And.intro (c_refuse (w := 1)) (And.intro (And.intro (Nat.zero_le _) (Nat.zero_le _)) (fun q h' hpo => ?_)))
    obtain ⟨rfl, rfl⟩ := hpo
    refine And.intro ?_ ⟨trivial, Nat.le_of_ble_eq_true rfl, Nat.le_of_ble_eq_true rfl⟩
    rw [hPo]
    have e := x_ct_i (P := x_QCl 12 39 22 f g dm n k x) (l := []) (ρ := x_HR 12 39) (ρ2 := x_HR 12 39) (n := 600) (x_QCl_0 hw) (fun _ _ => rfl) (hr 12 (by decide))
    rw [List.append_nil] at e
    exact e
  | true =>
    obtain ⟨j, -, hj, rfl⟩ := x_wi_t (lo := 0) (hi := k) hw (by omega) (Nat.zero_le _)
    have hc : x_c (nI j) = j := nI_clamp (by omega)
    obtain ⟨a, ha⟩ : ∃ a, a = f 11 := ⟨_, rfl⟩
    have hT : y_TP a j := ⟨by omega, fun i hi => by rw [ha]; exact hb i (by omega)⟩
    have hq := (y_skip_sp a (Nat.zero_le j)).2
    refine And.intro (fun _ => ?_) (fun c => absurd (show (1 : Int32) = 0 from c) (by decide))
    refine Exists.intro _ (And.intro (c_open (k := j) (by omega) (fun i hi => hb i (by omega))) (And.intro (And.intro (Nat.zero_le _) (Nat.zero_le _)) (fun zq h' hpo => ?_)))
    obtain ⟨rfl, F1, G1, rfl, u1, u2⟩ := hpo
    rw [← ha] at u2
    refine Exists.intro _ (And.intro c_clear_22 (And.intro (And.intro (Nat.zero_le _) (Nat.zero_le _)) (fun zq h' hpo => ?_)))
    obtain ⟨rfl, F2, G2, rfl, w1⟩ := hpo
    refine And.intro ⟨rfl, h600, show (600 : Nat) < 1000 by decide⟩ ?_
    refine And.intro ⟨show 0 + 1 ≤ x_mc 105 by decide, show 0 + 3 ≤ x_ms 105 by decide⟩ ?_
    have n601 : 601 ∉ dm ++ [600] := by
      intro h
      rcases List.mem_append.mp h with h | h
      · exact h601 h
      · exact absurd (List.mem_singleton.mp h) (by decide)
    refine Exists.intro _ (And.intro (c_initL_22 (f := va_up F2 600 (fun _ => 0)) (g := va_up G2 600 (fun _ => 0)) (dm := dm ++ [600]) n601) (And.intro (And.intro (Nat.le_of_ble_eq_true rfl) (Nat.le_of_ble_eq_true rfl)) (fun zq h' hpo => ?_)))
    obtain ⟨rfl, rfl⟩ := hpo
    obtain ⟨F3, hF3⟩ : ∃ F3 : Nat → Nat → Int32, F3 = va_up (va_up F2 600 (fun _ => 0)) 601 (fun _ => 0) := ⟨_, rfl⟩
    obtain ⟨G3, hG3⟩ : ∃ G3 : Nat → Nat → Int64, G3 = va_up (va_up G2 600 (fun _ => 0)) 601 (fun _ => 0) := ⟨_, rfl⟩
    have f3 : ∀ c, c < 600 → F3 c = F2 c := fun c hc => by rw [hF3, x_un (by omega), x_un (by omega)]
    have g3 : ∀ c, c < 600 → G3 c = G2 c := fun c hc => by rw [hG3, x_un (by omega), x_un (by omega)]
    have f2 : ∀ c, ¬ (22 ≤ c ∧ c ≤ 22 + 9) → F2 c = F1 c := fun c hc => w1.2.2.2.2.2.1 c (by omega) (by omega) (by omega) (by omega) (by omega)
    have g2 : ∀ c, ¬ (22 ≤ c ∧ c ≤ 22 + 9) → G2 c = G1 c := fun c hc => w1.2.2.2.2.2.2 c (by omega)
    have hS : x_LS 22 a j y_S0 (y_skip a j 0) F3 G3 := by
      refine ⟨⟨?_, ?_⟩, v_CA_fr (v_CA_clear w1) (fun c _ h2 => f3 c (by omega)) (g3 _ (by decide)), ⟨fun i hi => absurd hi (Nat.not_lt_zero _), fun i hi => absurd hi (Nat.not_lt_zero _), fun i hi => absurd hi (Nat.not_lt_zero _)⟩, fun i hi => ?_⟩
      · rw [f3 11 (by decide), f2 11 (by decide)]
        exact u2.1
      · rw [f3 10 (by decide), f2 10 (by decide), g3 10 (by decide), g2 10 (by decide)]
        exact u2.2
      · rw [hF3, x_us]
        rfl
    show ∃ P, x_Ct 36 (d + 5) [.ref 600] (va_up (va_up F2 600 (fun _ => 0)) 601 (fun _ => 0), va_up (va_up G2 600 (fun _ => 0)) 601 (fun _ => 0), x_HR 12 39, dm ++ [600] ++ [601], 602) P ∧ _
    rw [← hF3, ← hG3]
    refine Exists.intro _ (And.intro (c_isTakenL_22 (j0 := j) hT y_v0_BA hS hq (Nat.sub_le _ _)) (And.intro (And.intro (Nat.le_of_ble_eq_true rfl) (Nat.le_of_ble_eq_true rfl)) (fun zq h' hpo => ?_)))
    have fr : ∀ F4 G4, x_fL 22 F3 G3 F4 G4 → (∀ c, c ≠ 10 → c < 600 → ¬ (22 ≤ c ∧ c ≤ 22 + 9) → F4 c = f c) ∧ ∀ c, c ≠ 10 → c < 600 → ¬ (22 ≤ c ∧ c ≤ 22 + 9) → G4 c = g c := by
      intro F4 G4 h
      refine ⟨fun c c1 c2 c3 => ?_, fun c c1 c2 c3 => ?_⟩
      · rw [h.1 c c1 (by omega) c3, f3 c c2, f2 c c3, u1.1 c c1]
      · rw [h.2 c c1 c3, g3 c c2, g2 c c3, u1.2 c c1]
    have hρ : ∀ k ∈ dm, x_HR 22 39 k = x_up (x_up (x_HR 12 39) 0 8 (some 22)) 0 9 (some 12) k := fun k hk => (x_HR_sw (r := 12) (t := 39) (L := 22) rfl rfl (fun e => h600 (e ▸ hk)) (fun e => h610 (e ▸ hk))).symm
    have hX : y_land (f 11) (x_c (nI j)) = y_parts a j j y_S0 (y_skip a j 0) := by
      rw [hc, ← ha]
      rfl
    cases e1 : y_parts a j j y_S0 (y_skip a j 0) with
    | inl e =>
      rw [e1] at hpo
      obtain ⟨rfl, F4, G4, rfl, o1, o2⟩ := hpo
      obtain ⟨fr1, fr2⟩ := fr F4 G4 o1
      refine Exists.intro _ (And.intro (c_endText (b := false)) (And.intro (And.intro (Nat.le_of_ble_eq_true rfl) (Nat.le_of_ble_eq_true rfl)) (fun zq h' hpo => ?_)))
      obtain ⟨rfl, rfl⟩ := hpo
      refine And.intro (fun c => absurd rfl c) (fun _ => ?_)
      refine Exists.intro _ (And.intro (c_refuse (w := 9)) (And.intro (And.intro (Nat.le_of_ble_eq_true rfl) (Nat.le_of_ble_eq_true rfl)) (fun zq h' hpo => ?_)))
      obtain ⟨rfl, rfl⟩ := hpo
      refine And.intro ?_ ⟨trivial, Nat.le_of_ble_eq_true rfl, Nat.le_of_ble_eq_true rfl⟩
      rw [hPo]
      show x_ct (x_QCl 12 39 22 f g dm n k (nI j)) dm (some (.int (-1))) (x_up (x_up (x_up (x_up F4 0 5 0) 0 6 (F4 10 10)) 0 7 (F4 10 11)) 0 0 9, G4, x_HR 12 39, dm ++ [600] ++ [601], 602)
      rw [List.append_assoc]
      refine x_ct_i (ρ2 := x_HR 12 39) (n2 := n) (x_QCl_1 hw (hX.trans e1) ⟨fun i i0 i5 i6 i7 => ?_, fun c c0 c1 c2 c3 c4 => ?_, fr2⟩ ⟨rfl, rfl, o2.1, o2.2⟩ ?_) (fun _ _ => rfl) (hr 12 (by decide))
      · rw [x_up_j i0, x_up_j i7, x_up_j i6, x_up_j i5, fr1 0 (by decide) (by decide) (by decide)]
      · rw [x_up_k c0, x_up_k c0, x_up_k c0, x_up_k c0]
        exact fr1 c c1 c3 c4
      · rw [x_up_k (by decide), x_up_k (by decide), x_up_k (by decide), x_up_k (by decide)]
        exact fr1 39 (by decide) (by decide) (by decide)
    | inr S =>
      rw [e1] at hpo
      obtain ⟨rfl, F4, G4, rfl, o1, o2, o3, o4⟩ := hpo
      obtain ⟨fr1, fr2⟩ := fr F4 G4 o1
      have hP : F4 22 2 = nI (S.1 2 0 0) := (o2.1 2 0 0 ⟨rfl, rfl⟩).trans (congrArg nI (v_set_c (by decide)))
      refine Exists.intro _ (And.intro (c_endText (b := true)) (And.intro (And.intro (Nat.le_of_ble_eq_true rfl) (Nat.le_of_ble_eq_true rfl)) (fun zq h' hpo => ?_)))
      obtain ⟨rfl, rfl⟩ := hpo
      refine And.intro (fun _ => ?_) (fun c => absurd (show (1 : Int32) = 0 from c) (by decide))
      refine Exists.intro _ (And.intro (c_clearSr (t := 39) (by decide)) (And.intro (And.intro (Nat.le_of_ble_eq_true rfl) (Nat.le_of_ble_eq_true rfl)) (fun zq h' hpo => ?_)))
      obtain ⟨rfl, rfl⟩ := hpo
      refine Exists.intro _ (And.intro c_answer (And.intro (And.intro (Nat.le_of_ble_eq_true rfl) (Nat.le_of_ble_eq_true rfl)) (fun zq h' hpo => ?_)))
      obtain ⟨rfl, rfl⟩ := hpo
      refine And.intro ?_ ⟨trivial, Nat.le_of_ble_eq_true rfl, Nat.le_of_ble_eq_true rfl⟩
      rw [hPo]
      show x_ct (x_QCl 12 39 22 f g dm n k (nI j)) dm (some (.int (F4 22 2))) (x_up (x_up (x_up (x_up (x_up (x_up (x_up F4 0 5 0) 0 6 0) 0 7 (-1)) 39 0 0) 39 1 0) 39 2 0) 0 0 0, G4, x_up (x_up (x_HR 12 39) 0 8 (some 22)) 0 9 (some 12), dm ++ [600] ++ [601], 602)
      rw [hP, List.append_assoc]
      refine x_ct_i (ρ2 := x_HR 22 39) (n2 := n) (x_QCl_2 hw (hX.trans e1) ⟨fun i i0 i5 i6 i7 => ?_, fun c c0 c1 c2 c3 c4 => ?_, fr2⟩ ⟨rfl, rfl, rfl, rfl⟩ (v_C_fr o2 (fun c c1 c2 => ?_) rfl) o3 o4 rfl) hρ (hr 22 (by decide))
      · rw [x_up_j i0, x_up_k (by decide), x_up_k (by decide), x_up_k (by decide), x_up_j i7, x_up_j i6, x_up_j i5, fr1 0 (by decide) (by decide) (by decide)]
      · rw [x_up_k c0, x_up_k c2, x_up_k c2, x_up_k c2, x_up_k c0, x_up_k c0, x_up_k c0]
        exact fr1 c c1 c3 c4
      · rw [x_up_k (by omega), x_up_k (by omega), x_up_k (by omega), x_up_k (by omega), x_up_k (by omega), x_up_k (by omega), x_up_k (by omega)]
theorem c_land_12_39 {k : Nat} {x : Int32} (hk : f 0 5 = nI k) (hk9 : k ≤ 900) (hb : ∀ j, j < k → y_byt (f 11 j)) (h600 : 600 ∉ dm) (h601 : 601 ∉ dm) (h610 : 610 ∉ dm) (hr : ∀ r, r = 12 ∨ r = 22 → ∀ k ∈ dm, ∀ j q, x_HR r 39 k j = some q → x_in1 dm q) : x_Ct 105 (d + 6) [.ref 0, .int x] (f, g, x_HR 12 39, dm, n) (x_QCl 12 39 22 f g dm n k x) := x_Ct_cut (h := (f, g, x_HR 12 39, dm, 600)) (c_landU_12_39 hk hk9 hb h600 h601 h610 hr) (fun _ _ h => h)
theorem c_landU_22_32 {k : Nat} {x : Int32} (hk : f 0 5 = nI k) (hk9 : k ≤ 900) (hb : ∀ j, j < k → y_byt (f 11 j)) (h600 : 600 ∉ dm) (h601 : 601 ∉ dm) (h610 : 610 ∉ dm) (hr : ∀ r, r = 12 ∨ r = 22 → ∀ k ∈ dm, ∀ j q, x_HR r 32 k j = some q → x_in1 dm q) : x_Ct 105 (d + 6) [.ref 0, .int x] (f, g, x_HR 22 32, dm, 600) (x_ct (x_QCl 22 32 12 f g dm n k x) dm) := by
  obtain ⟨Po, hPo⟩ : ∃ Po : Option Value → xH → Prop, Po = x_ct (x_QCl 22 32 12 f g dm n k x) dm := ⟨_, rfl⟩
  rw [← hPo]
  have hL : (12 : Nat) = 12 ∨ (12 : Nat) = 22 := by decide
  refine x_Ct_w (by decide) (Nat.le_of_ble_eq_true rfl) ok105 [] 6 ?_
  show ∃ P, x_Ct 161 (d + 5) [.int x, .int 0, .int (f 0 5)] _ P ∧ _
  rw [hk]
  refine Exists.intro _ (And.intro c_within (And.intro (And.intro (Nat.zero_le _) (Nat.zero_le _)) (fun q h' hpo => ?_)))
  obtain ⟨rfl, rfl⟩ := hpo
  cases hw : x_wi x 0 (nI k) with
  | false =>
    refine And.intro (fun c => absurd rfl c) (fun _ => ?_)
    refine Exists.intro _ (And.intro (c_refuse (w := 1)) (And.intro (And.intro (Nat.zero_le _) (Nat.zero_le _)) (fun q h' hpo => ?_)))
    obtain ⟨rfl, rfl⟩ := hpo
    refine And.intro ?_ ⟨trivial, Nat.le_of_ble_eq_true rfl, Nat.le_of_ble_eq_true rfl⟩
    rw [hPo]
    have e := x_ct_i (P := x_QCl 22 32 12 f g dm n k x) (l := []) (ρ := x_HR 22 32) (ρ2 := x_HR 22 32) (n := 600) (x_QCl_0 hw) (fun _ _ => rfl) (hr 22 (by decide))
    rw [List.append_nil] at e
    exact e
  | true =>
    obtain ⟨j, -, hj, rfl⟩ := x_wi_t (lo := 0) (hi := k) hw (by omega) (Nat.zero_le _)
    have hc : x_c (nI j) = j := nI_clamp (by omega)
    obtain ⟨a, ha⟩ : ∃ a, a = f 11 := ⟨_, rfl⟩
    have hT : y_TP a j := ⟨by omega, fun i hi => by rw [ha]; exact hb i (by omega)⟩
    have hq := (y_skip_sp a (Nat.zero_le j)).2
    refine And.intro (fun _ => ?_) (fun c => absurd (show (1 : Int32) = 0 from c) (by decide))
    refine Exists.intro _ (And.intro (c_open (k := j) (by omega) (fun i hi => hb i (by omega))) (And.intro (And.intro (Nat.zero_le _) (Nat.zero_le _)) (fun zq h' hpo => ?_)))
    obtain ⟨rfl, F1, G1, rfl, u1, u2⟩ := hpo
    rw [← ha] at u2
    refine Exists.intro _ (And.intro c_clear_12 (And.intro (And.intro (Nat.zero_le _) (Nat.zero_le _)) (fun zq h' hpo => ?_)))
    obtain ⟨rfl, F2, G2, rfl, w1⟩ := hpo
    refine And.intro ⟨rfl, h600, show (600 : Nat) < 1000 by decide⟩ ?_
    refine And.intro ⟨show 0 + 1 ≤ x_mc 105 by decide, show 0 + 3 ≤ x_ms 105 by decide⟩ ?_
    have n601 : 601 ∉ dm ++ [600] := by
      intro h
      rcases List.mem_append.mp h with h | h
      · exact h601 h
      · exact absurd (List.mem_singleton.mp h) (by decide)
    refine Exists.intro _ (And.intro (c_initL_12 (f := va_up F2 600 (fun _ => 0)) (g := va_up G2 600 (fun _ => 0)) (dm := dm ++ [600]) n601) (And.intro (And.intro (Nat.le_of_ble_eq_true rfl) (Nat.le_of_ble_eq_true rfl)) (fun zq h' hpo => ?_)))
    obtain ⟨rfl, rfl⟩ := hpo
    obtain ⟨F3, hF3⟩ : ∃ F3 : Nat → Nat → Int32, F3 = va_up (va_up F2 600 (fun _ => 0)) 601 (fun _ => 0) := ⟨_, rfl⟩
    obtain ⟨G3, hG3⟩ : ∃ G3 : Nat → Nat → Int64, G3 = va_up (va_up G2 600 (fun _ => 0)) 601 (fun _ => 0) := ⟨_, rfl⟩
    have f3 : ∀ c, c < 600 → F3 c = F2 c := fun c hc => by rw [hF3, x_un (by omega), x_un (by omega)]
    have g3 : ∀ c, c < 600 → G3 c = G2 c := fun c hc => by rw [hG3, x_un (by omega), x_un (by omega)]
    have f2 : ∀ c, ¬ (12 ≤ c ∧ c ≤ 12 + 9) → F2 c = F1 c := fun c hc => w1.2.2.2.2.2.1 c (by omega) (by omega) (by omega) (by omega) (by omega)
    have g2 : ∀ c, ¬ (12 ≤ c ∧ c ≤ 12 + 9) → G2 c = G1 c := fun c hc => w1.2.2.2.2.2.2 c (by omega)
    have hS : x_LS 12 a j y_S0 (y_skip a j 0) F3 G3 := by
      refine ⟨⟨?_, ?_⟩, v_CA_fr (v_CA_clear w1) (fun c _ h2 => f3 c (by omega)) (g3 _ (by decide)), ⟨fun i hi => absurd hi (Nat.not_lt_zero _), fun i hi => absurd hi (Nat.not_lt_zero _), fun i hi => absurd hi (Nat.not_lt_zero _)⟩, fun i hi => ?_⟩
      · rw [f3 11 (by decide), f2 11 (by decide)]
        exact u2.1
      · rw [f3 10 (by decide), f2 10 (by decide), g3 10 (by decide), g2 10 (by decide)]
        exact u2.2
      · rw [hF3, x_us]
        rfl
    show ∃ P, x_Ct 36 (d + 5) [.ref 600] (va_up (va_up F2 600 (fun _ => 0)) 601 (fun _ => 0), va_up (va_up G2 600 (fun _ => 0)) 601 (fun _ => 0), x_HR 22 32, dm ++ [600] ++ [601], 602) P ∧ _
    rw [← hF3, ← hG3]
    refine Exists.intro _ (And.intro (c_isTakenL_12 (j0 := j) hT y_v0_BA hS hq (Nat.sub_le _ _)) (And.intro (And.intro (Nat.le_of_ble_eq_true rfl) (Nat.le_of_ble_eq_true rfl)) (fun zq h' hpo => ?_)))
    have fr : ∀ F4 G4, x_fL 12 F3 G3 F4 G4 → (∀ c, c ≠ 10 → c < 600 → ¬ (12 ≤ c ∧ c ≤ 12 + 9) → F4 c = f c) ∧ ∀ c, c ≠ 10 → c < 600 → ¬ (12 ≤ c ∧ c ≤ 12 + 9) → G4 c = g c := by
      intro F4 G4 h
      refine ⟨fun c c1 c2 c3 => ?_, fun c c1 c2 c3 => ?_⟩
      · rw [h.1 c c1 (by omega) c3, f3 c c2, f2 c c3, u1.1 c c1]
      · rw [h.2 c c1 c3, g3 c c2, g2 c c3, u1.2 c c1]
    have hρ : ∀ k ∈ dm, x_HR 12 32 k = x_up (x_up (x_HR 22 32) 0 8 (some 12)) 0 9 (some 22) k := fun k hk => (x_HR_sw (r := 22) (t := 32) (L := 12) rfl rfl (fun e => h600 (e ▸ hk)) (fun e => h610 (e ▸ hk))).symm
    have hX : y_land (f 11) (x_c (nI j)) = y_parts a j j y_S0 (y_skip a j 0) := by
      rw [hc, ← ha]
      rfl
    cases e1 : y_parts a j j y_S0 (y_skip a j 0) with
    | inl e =>
      rw [e1] at hpo
      obtain ⟨rfl, F4, G4, rfl, o1, o2⟩ := hpo
      obtain ⟨fr1, fr2⟩ := fr F4 G4 o1
      refine Exists.intro _ (And.intro (c_endText (b := false)) (And.intro (And.intro (Nat.le_of_ble_eq_true rfl) (Nat.le_of_ble_eq_true rfl)) (fun zq h' hpo => ?_)))
      obtain ⟨rfl, rfl⟩ := hpo
      refine And.intro (fun c => absurd rfl c) (fun _ => ?_)
      refine Exists.intro _ (And.intro (c_refuse (w := 9)) (And.intro (And.intro (Nat.le_of_ble_eq_true rfl) (Nat.le_of_ble_eq_true rfl)) (fun zq h' hpo => ?_)))
      obtain ⟨rfl, rfl⟩ := hpo
      refine And.intro ?_ ⟨trivial, Nat.le_of_ble_eq_true rfl, Nat.le_of_ble_eq_true rfl⟩
      rw [hPo]
      show x_ct (x_QCl 22 32 12 f g dm n k (nI j)) dm (some (.int (-1))) (x_up (x_up (x_up (x_up F4 0 5 0) 0 6 (F4 10 10)) 0 7 (F4 10 11)) 0 0 9, G4, x_HR 22 32, dm ++ [600] ++ [601], 602)
      rw [List.append_assoc]
      refine x_ct_i (ρ2 := x_HR 22 32) (n2 := n) (x_QCl_1 hw (hX.trans e1) ⟨fun i i0 i5 i6 i7 => ?_, fun c c0 c1 c2 c3 c4 => ?_, fr2⟩ ⟨rfl, rfl, o2.1, o2.2⟩ ?_) (fun _ _ => rfl) (hr 22 (by decide))
      · rw [x_up_j i0, x_up_j i7, x_up_j i6, x_up_j i5, fr1 0 (by decide) (by decide) (by decide)]
      · rw [x_up_k c0, x_up_k c0, x_up_k c0, x_up_k c0]
        exact fr1 c c1 c3 c4
      · rw [x_up_k (by decide), x_up_k (by decide), x_up_k (by decide), x_up_k (by decide)]
        exact fr1 32 (by decide) (by decide) (by decide)
    | inr S =>
      rw [e1] at hpo
      obtain ⟨rfl, F4, G4, rfl, o1, o2, o3, o4⟩ := hpo
      obtain ⟨fr1, fr2⟩ := fr F4 G4 o1
      have hP : F4 12 2 = nI (S.1 2 0 0) := (o2.1 2 0 0 ⟨rfl, rfl⟩).trans (congrArg nI (v_set_c (by decide)))
      refine Exists.intro _ (And.intro (c_endText (b := true)) (And.intro (And.intro (Nat.le_of_ble_eq_true rfl) (Nat.le_of_ble_eq_true rfl)) (fun zq h' hpo => ?_)))
      obtain ⟨rfl, rfl⟩ := hpo
      refine And.intro (fun _ => ?_) (fun c => absurd (show (1 : Int32) = 0 from c) (by decide))
      refine Exists.intro _ (And.intro (c_clearSr (t := 32) (by decide)) (And.intro (And.intro (Nat.le_of_ble_eq_true rfl) (Nat.le_of_ble_eq_true rfl)) (fun zq h' hpo => ?_)))
      obtain ⟨rfl, rfl⟩ := hpo
      refine Exists.intro _ (And.intro c_answer (And.intro (And.intro (Nat.le_of_ble_eq_true rfl) (Nat.le_of_ble_eq_true rfl)) (fun zq h' hpo => ?_)))
      obtain ⟨rfl, rfl⟩ := hpo
      refine And.intro ?_ ⟨trivial, Nat.le_of_ble_eq_true rfl, Nat.le_of_ble_eq_true rfl⟩
      rw [hPo]
      show x_ct (x_QCl 22 32 12 f g dm n k (nI j)) dm (some (.int (F4 12 2))) (x_up (x_up (x_up (x_up (x_up (x_up (x_up F4 0 5 0) 0 6 0) 0 7 (-1)) 32 0 0) 32 1 0) 32 2 0) 0 0 0, G4, x_up (x_up (x_HR 22 32) 0 8 (some 12)) 0 9 (some 22), dm ++ [600] ++ [601], 602)
      rw [hP, List.append_assoc]
      refine x_ct_i (ρ2 := x_HR 12 32) (n2 := n) (x_QCl_2 hw (hX.trans e1) ⟨fun i i0 i5 i6 i7 => ?_, fun c c0 c1 c2 c3 c4 => ?_, fr2⟩ ⟨rfl, rfl, rfl, rfl⟩ (v_C_fr o2 (fun c c1 c2 => ?_) rfl) o3 o4 rfl) hρ (hr 12 (by decide))
      · rw [x_up_j i0, x_up_k (by decide), x_up_k (by decide), x_up_k (by decide), x_up_j i7, x_up_j i6, x_up_j i5, fr1 0 (by decide) (by decide) (by decide)]
      · rw [x_up_k c0, x_up_k c2, x_up_k c2, x_up_k c2, x_up_k c0, x_up_k c0, x_up_k c0]
        exact fr1 c c1 c3 c4
      · rw [x_up_k (by omega), x_up_k (by omega), x_up_k (by omega), x_up_k (by omega), x_up_k (by omega), x_up_k (by omega), x_up_k (by omega)]
theorem c_land_22_32 {k : Nat} {x : Int32} (hk : f 0 5 = nI k) (hk9 : k ≤ 900) (hb : ∀ j, j < k → y_byt (f 11 j)) (h600 : 600 ∉ dm) (h601 : 601 ∉ dm) (h610 : 610 ∉ dm) (hr : ∀ r, r = 12 ∨ r = 22 → ∀ k ∈ dm, ∀ j q, x_HR r 32 k j = some q → x_in1 dm q) : x_Ct 105 (d + 6) [.ref 0, .int x] (f, g, x_HR 22 32, dm, n) (x_QCl 22 32 12 f g dm n k x) := x_Ct_cut (h := (f, g, x_HR 22 32, dm, 600)) (c_landU_22_32 hk hk9 hb h600 h601 h610 hr) (fun _ _ h => h)
theorem c_landU_22_39 {k : Nat} {x : Int32} (hk : f 0 5 = nI k) (hk9 : k ≤ 900) (hb : ∀ j, j < k → y_byt (f 11 j)) (h600 : 600 ∉ dm) (h601 : 601 ∉ dm) (h610 : 610 ∉ dm) (hr : ∀ r, r = 12 ∨ r = 22 → ∀ k ∈ dm, ∀ j q, x_HR r 39 k j = some q → x_in1 dm q) : x_Ct 105 (d + 6) [.ref 0, .int x] (f, g, x_HR 22 39, dm, 600) (x_ct (x_QCl 22 39 12 f g dm n k x) dm) := by
  obtain ⟨Po, hPo⟩ : ∃ Po : Option Value → xH → Prop, Po = x_ct (x_QCl 22 39 12 f g dm n k x) dm := ⟨_, rfl⟩
  rw [← hPo]
  have hL : (12 : Nat) = 12 ∨ (12 : Nat) = 22 := by decide
  refine x_Ct_w (by decide) (Nat.le_of_ble_eq_true rfl) ok105 [] 6 ?_
  show ∃ P, x_Ct 161 (d + 5) [.int x, .int 0, .int (f 0 5)] _ P ∧ _
  rw [hk]
  refine Exists.intro _ (And.intro c_within (And.intro (And.intro (Nat.zero_le _) (Nat.zero_le _)) (fun q h' hpo => ?_)))
  obtain ⟨rfl, rfl⟩ := hpo
  cases hw : x_wi x 0 (nI k) with
  | false =>
    refine And.intro (fun c => absurd rfl c) (fun _ => ?_)
    refine Exists.intro _ (And.intro (c_refuse (w := 1)) (And.intro (And.intro (Nat.zero_le _) (Nat.zero_le _)) (fun q h' hpo => ?_)))
    obtain ⟨rfl, rfl⟩ := hpo
    refine And.intro ?_ ⟨trivial, Nat.le_of_ble_eq_true rfl, Nat.le_of_ble_eq_true rfl⟩
    rw [hPo]
    have e := x_ct_i (P := x_QCl 22 39 12 f g dm n k x) (l := []) (ρ := x_HR 22 39) (ρ2 := x_HR 22 39) (n := 600) (x_QCl_0 hw) (fun _ _ => rfl) (hr 22 (by decide))
    rw [List.append_nil] at e
    exact e
  | true =>
    obtain ⟨j, -, hj, rfl⟩ := x_wi_t (lo := 0) (hi := k) hw (by omega) (Nat.zero_le _)
    have hc : x_c (nI j) = j := nI_clamp (by omega)
    obtain ⟨a, ha⟩ : ∃ a, a = f 11 := ⟨_, rfl⟩
    have hT : y_TP a j := ⟨by omega, fun i hi => by rw [ha]; exact hb i (by omega)⟩
    have hq := (y_skip_sp a (Nat.zero_le j)).2
    refine And.intro (fun _ => ?_) (fun c => absurd (show (1 : Int32) = 0 from c) (by decide))
    refine Exists.intro _ (And.intro (c_open (k := j) (by omega) (fun i hi => hb i (by omega))) (And.intro (And.intro (Nat.zero_le _) (Nat.zero_le _)) (fun zq h' hpo => ?_)))
    obtain ⟨rfl, F1, G1, rfl, u1, u2⟩ := hpo
    rw [← ha] at u2
    refine Exists.intro _ (And.intro c_clear_12 (And.intro (And.intro (Nat.zero_le _) (Nat.zero_le _)) (fun zq h' hpo => ?_)))
    obtain ⟨rfl, F2, G2, rfl, w1⟩ := hpo
    refine And.intro ⟨rfl, h600, show (600 : Nat) < 1000 by decide⟩ ?_
    refine And.intro ⟨show 0 + 1 ≤ x_mc 105 by decide, show 0 + 3 ≤ x_ms 105 by decide⟩ ?_
    have n601 : 601 ∉ dm ++ [600] := by
      intro h
      rcases List.mem_append.mp h with h | h
      · exact h601 h
      · exact absurd (List.mem_singleton.mp h) (by decide)
    refine Exists.intro _ (And.intro (c_initL_12 (f := va_up F2 600 (fun _ => 0)) (g := va_up G2 600 (fun _ => 0)) (dm := dm ++ [600]) n601) (And.intro (And.intro (Nat.le_of_ble_eq_true rfl) (Nat.le_of_ble_eq_true rfl)) (fun zq h' hpo => ?_)))
    obtain ⟨rfl, rfl⟩ := hpo
    obtain ⟨F3, hF3⟩ : ∃ F3 : Nat → Nat → Int32, F3 = va_up (va_up F2 600 (fun _ => 0)) 601 (fun _ => 0) := ⟨_, rfl⟩
    obtain ⟨G3, hG3⟩ : ∃ G3 : Nat → Nat → Int64, G3 = va_up (va_up G2 600 (fun _ => 0)) 601 (fun _ => 0) := ⟨_, rfl⟩
    have f3 : ∀ c, c < 600 → F3 c = F2 c := fun c hc => by rw [hF3, x_un (by omega), x_un (by omega)]
    have g3 : ∀ c, c < 600 → G3 c = G2 c := fun c hc => by rw [hG3, x_un (by omega), x_un (by omega)]
    have f2 : ∀ c, ¬ (12 ≤ c ∧ c ≤ 12 + 9) → F2 c = F1 c := fun c hc => w1.2.2.2.2.2.1 c (by omega) (by omega) (by omega) (by omega) (by omega)
    have g2 : ∀ c, ¬ (12 ≤ c ∧ c ≤ 12 + 9) → G2 c = G1 c := fun c hc => w1.2.2.2.2.2.2 c (by omega)
    have hS : x_LS 12 a j y_S0 (y_skip a j 0) F3 G3 := by
      refine ⟨⟨?_, ?_⟩, v_CA_fr (v_CA_clear w1) (fun c _ h2 => f3 c (by omega)) (g3 _ (by decide)), ⟨fun i hi => absurd hi (Nat.not_lt_zero _), fun i hi => absurd hi (Nat.not_lt_zero _), fun i hi => absurd hi (Nat.not_lt_zero _)⟩, fun i hi => ?_⟩
      · rw [f3 11 (by decide), f2 11 (by decide)]
        exact u2.1
      · rw [f3 10 (by decide), f2 10 (by decide), g3 10 (by decide), g2 10 (by decide)]
        exact u2.2
      · rw [hF3, x_us]
        rfl
    show ∃ P, x_Ct 36 (d + 5) [.ref 600] (va_up (va_up F2 600 (fun _ => 0)) 601 (fun _ => 0), va_up (va_up G2 600 (fun _ => 0)) 601 (fun _ => 0), x_HR 22 39, dm ++ [600] ++ [601], 602) P ∧ _
    rw [← hF3, ← hG3]
    refine Exists.intro _ (And.intro (c_isTakenL_12 (j0 := j) hT y_v0_BA hS hq (Nat.sub_le _ _)) (And.intro (And.intro (Nat.le_of_ble_eq_true rfl) (Nat.le_of_ble_eq_true rfl)) (fun zq h' hpo => ?_)))
    have fr : ∀ F4 G4, x_fL 12 F3 G3 F4 G4 → (∀ c, c ≠ 10 → c < 600 → ¬ (12 ≤ c ∧ c ≤ 12 + 9) → F4 c = f c) ∧ ∀ c, c ≠ 10 → c < 600 → ¬ (12 ≤ c ∧ c ≤ 12 + 9) → G4 c = g c := by
      intro F4 G4 h
      refine ⟨fun c c1 c2 c3 => ?_, fun c c1 c2 c3 => ?_⟩
      · rw [h.1 c c1 (by omega) c3, f3 c c2, f2 c c3, u1.1 c c1]
      · rw [h.2 c c1 c3, g3 c c2, g2 c c3, u1.2 c c1]
    have hρ : ∀ k ∈ dm, x_HR 12 39 k = x_up (x_up (x_HR 22 39) 0 8 (some 12)) 0 9 (some 22) k := fun k hk => (x_HR_sw (r := 22) (t := 39) (L := 12) rfl rfl (fun e => h600 (e ▸ hk)) (fun e => h610 (e ▸ hk))).symm
    have hX : y_land (f 11) (x_c (nI j)) = y_parts a j j y_S0 (y_skip a j 0) := by
      rw [hc, ← ha]
      rfl
    cases e1 : y_parts a j j y_S0 (y_skip a j 0) with
    | inl e =>
      rw [e1] at hpo
      obtain ⟨rfl, F4, G4, rfl, o1, o2⟩ := hpo
      obtain ⟨fr1, fr2⟩ := fr F4 G4 o1
      refine Exists.intro _ (And.intro (c_endText (b := false)) (And.intro (And.intro (Nat.le_of_ble_eq_true rfl) (Nat.le_of_ble_eq_true rfl)) (fun zq h' hpo => ?_)))
      obtain ⟨rfl, rfl⟩ := hpo
      refine And.intro (fun c => absurd rfl c) (fun _ => ?_)
      refine Exists.intro _ (And.intro (c_refuse (w := 9)) (And.intro (And.intro (Nat.le_of_ble_eq_true rfl) (Nat.le_of_ble_eq_true rfl)) (fun zq h' hpo => ?_)))
      obtain ⟨rfl, rfl⟩ := hpo
      refine And.intro ?_ ⟨trivial, Nat.le_of_ble_eq_true rfl, Nat.le_of_ble_eq_true rfl⟩
      rw [hPo]
      show x_ct (x_QCl 22 39 12 f g dm n k (nI j)) dm (some (.int (-1))) (x_up (x_up (x_up (x_up F4 0 5 0) 0 6 (F4 10 10)) 0 7 (F4 10 11)) 0 0 9, G4, x_HR 22 39, dm ++ [600] ++ [601], 602)
      rw [List.append_assoc]
      refine x_ct_i (ρ2 := x_HR 22 39) (n2 := n) (x_QCl_1 hw (hX.trans e1) ⟨fun i i0 i5 i6 i7 => ?_, fun c c0 c1 c2 c3 c4 => ?_, fr2⟩ ⟨rfl, rfl, o2.1, o2.2⟩ ?_) (fun _ _ => rfl) (hr 22 (by decide))
      · rw [x_up_j i0, x_up_j i7, x_up_j i6, x_up_j i5, fr1 0 (by decide) (by decide) (by decide)]
      · rw [x_up_k c0, x_up_k c0, x_up_k c0, x_up_k c0]
        exact fr1 c c1 c3 c4
      · rw [x_up_k (by decide), x_up_k (by decide), x_up_k (by decide), x_up_k (by decide)]
        exact fr1 39 (by decide) (by decide) (by decide)
    | inr S =>
      rw [e1] at hpo
      obtain ⟨rfl, F4, G4, rfl, o1, o2, o3, o4⟩ := hpo
      obtain ⟨fr1, fr2⟩ := fr F4 G4 o1
      have hP : F4 12 2 = nI (S.1 2 0 0) := (o2.1 2 0 0 ⟨rfl, rfl⟩).trans (congrArg nI (v_set_c (by decide)))
      refine Exists.intro _ (And.intro (c_endText (b := true)) (And.intro (And.intro (Nat.le_of_ble_eq_true rfl) (Nat.le_of_ble_eq_true rfl)) (fun zq h' hpo => ?_)))
      obtain ⟨rfl, rfl⟩ := hpo
      refine And.intro (fun _ => ?_) (fun c => absurd (show (1 : Int32) = 0 from c) (by decide))
      refine Exists.intro _ (And.intro (c_clearSr (t := 39) (by decide)) (And.intro (And.intro (Nat.le_of_ble_eq_true rfl) (Nat.le_of_ble_eq_true rfl)) (fun zq h' hpo => ?_)))
      obtain ⟨rfl, rfl⟩ := hpo
      refine Exists.intro _ (And.intro c_answer (And.intro (And.intro (Nat.le_of_ble_eq_true rfl) (Nat.le_of_ble_eq_true rfl)) (fun zq h' hpo => ?_)))
      obtain ⟨rfl, rfl⟩ := hpo
      refine And.intro ?_ ⟨trivial, Nat.le_of_ble_eq_true rfl, Nat.le_of_ble_eq_true rfl⟩
      rw [hPo]
      show x_ct (x_QCl 22 39 12 f g dm n k (nI j)) dm (some (.int (F4 12 2))) (x_up (x_up (x_up (x_up (x_up (x_up (x_up F4 0 5 0) 0 6 0) 0 7 (-1)) 39 0 0) 39 1 0) 39 2 0) 0 0 0, G4, x_up (x_up (x_HR 22 39) 0 8 (some 12)) 0 9 (some 22), dm ++ [600] ++ [601], 602)
      rw [hP, List.append_assoc]
      refine x_ct_i (ρ2 := x_HR 12 39) (n2 := n) (x_QCl_2 hw (hX.trans e1) ⟨fun i i0 i5 i6 i7 => ?_, fun c c0 c1 c2 c3 c4 => ?_, fr2⟩ ⟨rfl, rfl, rfl, rfl⟩ (v_C_fr o2 (fun c c1 c2 => ?_) rfl) o3 o4 rfl) hρ (hr 12 (by decide))
      · rw [x_up_j i0, x_up_k (by decide), x_up_k (by decide), x_up_k (by decide), x_up_j i7, x_up_j i6, x_up_j i5, fr1 0 (by decide) (by decide) (by decide)]
      · rw [x_up_k c0, x_up_k c2, x_up_k c2, x_up_k c2, x_up_k c0, x_up_k c0, x_up_k c0]
        exact fr1 c c1 c3 c4
      · rw [x_up_k (by omega), x_up_k (by omega), x_up_k (by omega), x_up_k (by omega), x_up_k (by omega), x_up_k (by omega), x_up_k (by omega)]
theorem c_land_22_39 {k : Nat} {x : Int32} (hk : f 0 5 = nI k) (hk9 : k ≤ 900) (hb : ∀ j, j < k → y_byt (f 11 j)) (h600 : 600 ∉ dm) (h601 : 601 ∉ dm) (h610 : 610 ∉ dm) (hr : ∀ r, r = 12 ∨ r = 22 → ∀ k ∈ dm, ∀ j q, x_HR r 39 k j = some q → x_in1 dm q) : x_Ct 105 (d + 6) [.ref 0, .int x] (f, g, x_HR 22 39, dm, n) (x_QCl 22 39 12 f g dm n k x) := x_Ct_cut (h := (f, g, x_HR 22 39, dm, 600)) (c_landU_22_39 hk hk9 hb h600 h601 h610 hr) (fun _ _ h => h)
end C84
