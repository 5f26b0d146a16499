/-! THE RELATION between the class and the model: both show the same state -/
abbrev zW : Type := xV × (Nat → Int64) × xP
def z_Rc (f : Nat → Nat → Int32) (g : Nat → Nat → Int64) (L t : Nat) (W : zW) : Prop := v_C f g L W.1 ∧ y_NR (g (L + 2)) W.1 W.2.1 ∧ x_SO f t W.2.2
def z_Rm (a : Nat → Int32) (b : Nat → Int64) (W : zW) : Prop := v_M a 0 W.1 ∧ y_NR b W.1 W.2.1 ∧ x_SN a W.2.2
def z_Rv (B : Nat) (W : zW) : Prop := v_Bn B W.1 ∧ y_SO W.1 W.2.2
/-- W the land (view, names, story), M the marks' lands, m how many marks, T TRAYS, D what was told, a the tape, k how much is fed, s STATUS, e the fault, p the FRACTION -/
def z_RC (r t : Nat) (f : Nat → Nat → Int32) (g : Nat → Nat → Int64) (W : zW) (M : Nat → zW) (m : Nat) (T : xT) (D : Option (Nat → Nat)) (a : Nat → Int32) (k : Nat) (s : Int32) (e : Int32 × Int32) (p : Int64 × Int64) : Prop :=
  z_Rc f g r t W ∧ (∀ i, i < m → z_Rc f g (48 + 17 * i) (58 + 17 * i) (M i)) ∧ x_TC f g T ∧ x_DC f g D ∧ (f 0 14 = nI m ∧ f 11 = a ∧ f 0 5 = nI k ∧ f 0 0 = s ∧ f 0 6 = e.1 ∧ f 0 7 = e.2 ∧ g 0 1 = p.1 ∧ g 0 2 = p.2) ∧ ∀ i, i < m → f (58 + 17 * i) 0 = 0 ∨ f (58 + 17 * i) 0 = 1
def z_RM (f : Nat → Nat → Int32) (g : Nat → Nat → Int64) (W : zW) (M : Nat → zW) (m : Nat) (T : xT) (D : Option (Nat → Nat)) (a : Nat → Int32) (k : Nat) (s : Int32) (e : Int32 × Int32) (p : Int64 × Int64) : Prop :=
  z_Rm (f 501) (g 502) W ∧ (∀ i, i < m → z_Rm (fun j => f 501 (464 * (i + 1) + j)) (fun j => g 502 (14 * (i + 1) + j)) (M i)) ∧ x_TM f g T ∧ x_DM f D ∧ f 500 38 = nI m ∧ f 506 = a ∧ f 500 10 = nI k ∧ f 500 2 = s ∧ f 500 16 = e.1 ∧ f 500 17 = e.2 ∧ g 500 3 = p.1 ∧ g 500 4 = p.2
def z_RV (B : Nat) (W : zW) (M : Nat → zW) (m : Nat) (a : Nat → Int32) (k : Nat) : Prop := z_Rv B W ∧ (∀ i, i < m → z_Rv B (M i)) ∧ m ≤ 3 ∧ k ≤ 900 ∧ ∀ j, j < k → y_byt (a j)
def z_Inv (u : Nat) (h : xH) : Prop := ∃ r t f g W M m T D a k s e p, (r = 12 ∨ r = 22) ∧ (t = 32 ∨ t = 39) ∧ h = (f, g, x_HR r t, x_dmA, 518) ∧ z_RC r t f g W M m T D a k s e p ∧ z_RM f g W M m T D a k s e p ∧ z_RV (u * 2 ^ 34) W M m a k
def z_EC (f : Nat → Nat → Int32) (g : Nat → Nat → Int64) (w : Value) (W : zW) (M : Nat → zW) (m : Nat) (T : xT) (D : Option (Nat → Nat)) (a : Nat → Int32) (k : Nat) (s : Int32) (e : Int32 × Int32) (p : Int64 × Int64) : Option Value → xH → Prop := fun q h' =>
  q = some w ∧ ∃ r t F G, (r = 12 ∨ r = 22) ∧ (t = 32 ∨ t = 39) ∧ h' = (F, G, x_HR r t, x_dmA, 518) ∧ z_RC r t F G W M m T D a k s e p ∧ ∀ c, 500 ≤ c → c < 600 → F c = f c ∧ G c = g c
def z_EM (f : Nat → Nat → Int32) (g : Nat → Nat → Int64) (ρ : Nat → Nat → Option Nat) (w : Value) (W : zW) (M : Nat → zW) (m : Nat) (T : xT) (D : Option (Nat → Nat)) (a : Nat → Int32) (k : Nat) (s : Int32) (e : Int32 × Int32) (p : Int64 × Int64) : Option Value → xH → Prop := fun q h' =>
  q = some w ∧ ∃ F G, h' = (F, G, ρ, x_dmA, 518) ∧ z_RM F G W M m T D a k s e p ∧ ∀ c, c < 500 → F c = f c ∧ G c = g c
section Cb6
variable {f F : Nat → Nat → Int32} {g G : Nat → Nat → Int64} {r t r' t' L u B : Nat} {W W' : zW} {M M' : Nat → zW} {m m' : Nat} {T T' : xT} {D D' : Option (Nat → Nat)} {a a' : Nat → Int32} {k k' : Nat} {s s' : Int32} {e e' : Int32 × Int32} {p p' : Int64 × Int64} {ρ : Nat → Nat → Option Nat}
theorem z_SO_fr {S : xP} (h : x_SO f t S) (hc : ∀ c, t ≤ c → c ≤ t + 6 → F c = f c) : x_SO F t S := by
  cases S with
  | none =>
    show F t 0 = 0
    rw [hc t (by omega) (by omega)]
    exact h
  | some q => exact ⟨by rw [hc t (by omega) (by omega)]; exact h.1, x_SC_fr h.2 hc⟩
theorem z_Rc_fr (h : z_Rc f g L t W) (h1 : ∀ c, L ≤ c → c ≤ L + 9 → F c = f c) (h2 : G L = g L) (h3 : G (L + 2) = g (L + 2)) (h4 : ∀ c, t ≤ c → c ≤ t + 6 → F c = f c) : z_Rc F G L t W :=
  ⟨v_C_fr h.1 h1 h2, by rw [h3]; exact h.2.1, z_SO_fr h.2.2 h4⟩
theorem z_TC_fr (h : x_TC f g T) (h1 : ∀ c, 2 ≤ c → c ≤ 9 → F c = f c) (h2 : ∀ c, 2 ≤ c → c ≤ 9 → G c = g c) : x_TC F G T := fun i hi => by
  rw [h1 (2 + 2 * i) (by omega) (by omega), h2 (3 + 2 * i) (by omega) (by omega)]
  exact h i hi
theorem z_DC_fr (h : x_DC f g D) (h1 : F 0 19 = f 0 19) (h2 : F 102 = f 102) (h3 : G 102 = g 102) : x_DC F G D := by
  cases D with
  | none => exact h1.trans h
  | some w =>
    show F 0 19 = 1 ∧ _
    rw [h1, h2, h3]
    exact h
theorem z_DM_fr (h : x_DM f D) (h1 : F 500 37 = f 500 37) (h2 : F 517 = f 517) : x_DM F D := by
  cases D with
  | none => exact h1.trans h
  | some w =>
    show F 500 37 = 1 ∧ _
    rw [h1, h2]
    exact h
theorem z_TM_fr (h : x_TM f g T) (h1 : F 503 = f 503) (h2 : F 504 = f 504) (h3 : G 505 = g 505) : x_TM F G T := by
  unfold x_TM at h ⊢
  rw [h1, h2, h3]
  exact h
theorem z_Bn_m {v : xV} (h : v_Bn B v) {B' : Nat} (hB : B ≤ B') : v_Bn B' v := v_Bn_mono h hB
theorem z_NL {S : xP} {v : xV} (h : y_SO v S) : ∀ q, S = some q → q.2 ≤ 60 := fun q hq => by
  subst hq
  exact h.1
theorem z_NR_fr {b b' N : Nat → Int64} {v : xV} (h : y_NR b v N) (hB : v_B v) (hb : ∀ j, j < 14 → b' j = b j) : y_NR b' v N :=
  ⟨fun i hi => by have := v_B_K hB; rw [hb i (by omega)]; exact h.1 i hi, fun i hi => by have := v_B_G hB; rw [hb _ (by omega)]; exact h.2.1 i hi, fun i hi => by have := v_B_P hB; rw [hb _ (by omega)]; exact h.2.2 i hi⟩
theorem z_SN_fr {A A' : Nat → Int32} {S : xP} {v : xV} (h : x_SN A S) (hV : y_SO v S) (h1 : A' 11 = A 11) (h2 : ∀ j, 96 ≤ j → j < 456 → A' j = A j) : x_SN A' S := by
  cases S with
  | none => exact h1.trans h
  | some q => exact x_SM_fr2 h (z_NL hV q rfl) h1 h2
theorem z_Rm_fr {A A' : Nat → Int32} {b b' : Nat → Int64} (h : z_Rm A b W) (hv : z_Rv B W) (hB : B < 2 ^ 60) (h1 : ∀ j, j < 456 → A' j = A j) (h2 : ∀ j, j < 14 → b' j = b j) : z_Rm A' b' W := by
  have hb := v_Bn_B hv.1 hB
  exact ⟨v_M_mv hb h.1 (fun j hj => by rw [Nat.zero_add]; exact h1 j (by omega)), z_NR_fr h.2.1 hb h2, z_SN_fr h.2.2 hv.2 (h1 11 (by decide)) (fun j _ hj => h1 j hj)⟩
theorem z_RC_k (h : z_RC r t f g W M m T D a k s e p) (hW : z_Rc F G r' t' W') (hM : ∀ c, 48 ≤ c → c ≤ 98 → F c = f c ∧ G c = g c) (hT : x_TC F G T') (hD : x_DC F G D') (h14 : F 0 14 = f 0 14) (hr : F 11 = a' ∧ F 0 5 = nI k' ∧ F 0 0 = s' ∧ F 0 6 = e'.1 ∧ F 0 7 = e'.2 ∧ G 0 1 = p'.1 ∧ G 0 2 = p'.2) (hm : m ≤ 3) : z_RC r' t' F G W' M m T' D' a' k' s' e' p' := by
  obtain ⟨h1, h2, h3, h4, h5, h6⟩ := h
  refine ⟨hW, fun i hi => z_Rc_fr (h2 i hi) (fun c c1 c2 => (hM c (by omega) (by omega)).1) (hM _ (by omega) (by omega)).2 (hM _ (by omega) (by omega)).2 (fun c c1 c2 => (hM c (by omega) (by omega)).1), hT, hD, ⟨h14.trans h5.1, hr⟩, fun i hi => ?_⟩
  rw [(hM (58 + 17 * i) (by omega) (by omega)).1]
  exact h6 i hi
theorem z_RM_k (h : z_RM f g W M m T D a k s e p) (hV : ∀ i, i < m → z_Rv B (M i)) (hB : B < 2 ^ 60) (hm : m ≤ 3) (hW : z_Rm (F 501) (G 502) W') (hM : ∀ j, 464 ≤ j → j < 1856 → F 501 j = f 501 j) (hN : ∀ j, 14 ≤ j → j < 56 → G 502 j = g 502 j) (hT : x_TM F G T') (hD : x_DM F D') (h38 : F 500 38 = f 500 38) (hr : F 506 = a' ∧ F 500 10 = nI k' ∧ F 500 2 = s' ∧ F 500 16 = e'.1 ∧ F 500 17 = e'.2 ∧ G 500 3 = p'.1 ∧ G 500 4 = p'.2) : z_RM F G W' M m T' D' a' k' s' e' p' := by
  obtain ⟨h1, h2, h3, h4, h5⟩ := h
  exact ⟨hW, fun i hi => z_Rm_fr (h2 i hi) (hV i hi) hB (fun j hj => hM _ (by omega) (by omega)) (fun j hj => hN _ (by omega) (by omega)), hT, hD, h38.trans h5.1, hr⟩
theorem z_RM_cg (h : z_RM f g W M m T D a k s e p) (hc : ∀ c, 500 ≤ c → c < 600 → F c = f c ∧ G c = g c) : z_RM F G W M m T D a k s e p := by
  obtain ⟨h1, h2, h3, h4, h5⟩ := h
  have e0 := (hc 500 (by decide) (by decide)).1
  have e1 := (hc 501 (by decide) (by decide)).1
  have e6 := (hc 506 (by decide) (by decide)).1
  have g0 := (hc 500 (by decide) (by decide)).2
  have g2 := (hc 502 (by decide) (by decide)).2
  refine ⟨?_, ?_, z_TM_fr h3 (hc 503 (by decide) (by decide)).1 (hc 504 (by decide) (by decide)).1 (hc 505 (by decide) (by decide)).2, z_DM_fr h4 (by rw [e0]) (hc 517 (by decide) (by decide)).1, ?_⟩
  · rw [e1, g2]; exact h1
  · rw [e1, g2]; exact h2
  · rw [e0, e6, g0]; exact h5
theorem z_RC_cg (h : z_RC r t f g W M m T D a k s e p) (hr : r = 12 ∨ r = 22) (ht : t = 32 ∨ t = 39) (hm : m ≤ 3) (hc : ∀ c, c < 500 → F c = f c ∧ G c = g c) : z_RC r t F G W M m T D a k s e p := by
  have e0 := (hc 0 (by decide)).1
  have g0 := (hc 0 (by decide)).2
  refine z_RC_k h (z_Rc_fr h.1 (fun c c1 c2 => (hc c (by omega)).1) (hc _ (by omega)).2 (hc _ (by omega)).2 (fun c c1 c2 => (hc c (by omega)).1)) (fun c c1 c2 => hc c (by omega)) (z_TC_fr h.2.2.1 (fun c c1 c2 => (hc c (by omega)).1) (fun c c1 c2 => (hc c (by omega)).2)) (z_DC_fr h.2.2.2.1 (by rw [e0]) (hc 102 (by decide)).1 (hc 102 (by decide)).2) (by rw [e0]) ?_ hm
  rw [e0, g0, (hc 11 (by decide)).1]
  exact h.2.2.2.2.1.2
theorem z_two_I {A Bn : Nat} {as : List Value} {w : Int32} {PA : Option Value → xH → Prop} (hRM : z_RM f g W M m T D a k s e p) (hA : x_Ct A 1299 (.ref 0 :: as) (f, g, x_HR r t, x_dmA, 518) PA) (hA2 : ∀ q h', PA q h' → z_EC f g (.int w) W' M' m' T' D' a' k' s' e' p' q h') (hB : ∀ F G r' t', z_RM F G W M m T D a k s e p → ∃ PB, x_Ct Bn 1299 (.ref 500 :: as) (F, G, x_HR r' t', x_dmA, 518) PB ∧ ∀ q h', PB q h' → z_EM F G (x_HR r' t') (.int w) W' M' m' T' D' a' k' s' e' p' q h') (hV : z_RV ((u + 1) * 2 ^ 34) W' M' m' a' k') : x_TwoI (z_Inv (u + 1)) A Bn as (f, g, x_HR r t, x_dmA, 518) := by
  refine ⟨PA, hA, fun q h1 hp => ?_⟩
  obtain ⟨rfl, r2, t2, F, G, hr2, ht2, rfl, hC2, hfr⟩ := hA2 q h1 hp
  obtain ⟨PB, hB1, hB2⟩ := hB F G r2 t2 (z_RM_cg hRM hfr)
  refine ⟨w, rfl, PB, hB1, fun q' h2 hp' => ?_⟩
  obtain ⟨rfl, F2, G2, rfl, hM2, hfr2⟩ := hB2 q' h2 hp'
  exact ⟨rfl, r2, t2, F2, G2, W', M', m', T', D', a', k', s', e', p', hr2, ht2, rfl, z_RC_cg hC2 hr2 ht2 hV.2.2.1 hfr2, hM2, hV⟩
theorem z_two_L {A Bn : Nat} {as : List Value} {w : Int64} {PA : Option Value → xH → Prop} (hRM : z_RM f g W M m T D a k s e p) (hA : x_Ct A 1299 (.ref 0 :: as) (f, g, x_HR r t, x_dmA, 518) PA) (hA2 : ∀ q h', PA q h' → z_EC f g (.long w) W' M' m' T' D' a' k' s' e' p' q h') (hB : ∀ F G r' t', z_RM F G W M m T D a k s e p → ∃ PB, x_Ct Bn 1299 (.ref 500 :: as) (F, G, x_HR r' t', x_dmA, 518) PB ∧ ∀ q h', PB q h' → z_EM F G (x_HR r' t') (.long w) W' M' m' T' D' a' k' s' e' p' q h') (hV : z_RV ((u + 1) * 2 ^ 34) W' M' m' a' k') : x_TwoL (z_Inv (u + 1)) A Bn as (f, g, x_HR r t, x_dmA, 518) := by
  refine ⟨PA, hA, fun q h1 hp => ?_⟩
  obtain ⟨rfl, r2, t2, F, G, hr2, ht2, rfl, hC2, hfr⟩ := hA2 q h1 hp
  obtain ⟨PB, hB1, hB2⟩ := hB F G r2 t2 (z_RM_cg hRM hfr)
  refine ⟨w, rfl, PB, hB1, fun q' h2 hp' => ?_⟩
  obtain ⟨rfl, F2, G2, rfl, hM2, hfr2⟩ := hB2 q' h2 hp'
  exact ⟨rfl, r2, t2, F2, G2, W', M', m', T', D', a', k', s', e', p', hr2, ht2, rfl, z_RC_cg hC2 hr2 ht2 hV.2.2.1 hfr2, hM2, hV⟩
theorem z_Rv_m (h : z_Rv B W) {B' : Nat} (hB : B ≤ B') : z_Rv B' W := ⟨v_Bn_mono h.1 hB, h.2⟩
theorem z_RV_m (h : z_RV (u * 2 ^ 34) W M m a k) : z_RV ((u + 1) * 2 ^ 34) W M m a k := ⟨z_Rv_m h.1 (by omega), fun i hi => z_Rv_m (h.2.1 i hi) (by omega), h.2.2⟩
end Cb6
