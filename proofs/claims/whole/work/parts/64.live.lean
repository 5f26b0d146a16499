/-! live(), lived() -/
abbrev xP : Type := Option (xR × Nat)
def y_life (v : xV) (p : xR × Nat) (seed : Nat) : xW := y_fin p.1 p.2 (0, (fun _ => 0), v, seed, 0, 0, 0, 0, false)
def y_tl (q0 : Nat) (E : xW) : Nat → Nat := fun i => match i with
  | 0 => E.2.2.2.2.2.1
  | 1 => E.2.2.2.2.2.2.1
  | 2 => E.2.2.2.2.2.2.2.1
  | 3 => E.2.2.1 16 0 0 - q0
  | _ => E.2.2.2.2.2.2.2.2.toNat
def y_lo (v : xV) (S : xP) (seed : Nat) : Option (Int32 × xV) := match S with
  | none => none
  | some p => some (nI (y_life v p seed).2.2.2.2.1, (y_life v p seed).2.2.1)
def y_ld (D : Option (Nat → Nat)) (v : xV) (S : xP) (seed : Nat) : Option (Nat → Nat) := match S with
  | none => D
  | some p => some (y_tl (v 16 0 0) (y_life v p seed))
def sp_live (v : xV) (S : xP) (x : Int32) : xS := x_sq 6 (x_wi x 0 9999) (y_lo v S (x_c x)) v
def y_told (D : Option (Nat → Nat)) (v : xV) (S : xP) (x : Int32) : Option (Nat → Nat) := match x_wi x 0 9999 with
  | false => D
  | true => y_ld D v S (x_c x)
def y_lv (v : xV) (D : Option (Nat → Nat)) (x : Nat) : Option (Int32 × xV) := match D with
  | none => none
  | some w => some (nI (w x), v)
def sp_lived (v : xV) (D : Option (Nat → Nat)) (x : Int32) : xS := x_sq 6 (x_wi x 0 4) (y_lv v D (x_c x)) v
/-- the story, on either side -/
def x_SO (f : Nat → Nat → Int32) (t : Nat) (S : xP) : Prop := match S with
  | none => f t 0 = 0
  | some p => f t 0 = 1 ∧ x_SC f t p.1 p.2
def x_SN (a : Nat → Int32) (S : xP) : Prop := match S with
  | none => a 11 = -1
  | some p => x_SM a p.1 p.2
def y_SO (v : xV) (S : xP) : Prop := match S with
  | none => True
  | some p => y_SV p.1 p.2 (v 2 0 0) (v 0 0 0) (v 1 0 0)
/-- what was told, on either side -/
def x_DC (f : Nat → Nat → Int32) (g : Nat → Nat → Int64) (D : Option (Nat → Nat)) : Prop := match D with
  | none => f 0 19 = 0
  | some w => f 0 19 = 1 ∧ f 102 4 = nI (w 0) ∧ f 102 5 = nI (w 1) ∧ f 102 6 = nI (w 2) ∧ g 102 7 = lN (w 3) ∧ f 102 8 = nI (w 4) ∧ w 3 ≤ 999999999 ∧ w 4 ≤ 1
def x_DM (f : Nat → Nat → Int32) (D : Option (Nat → Nat)) : Prop := match D with
  | none => f 500 37 = 0
  | some w => f 500 37 = 1 ∧ ∀ i, i < 5 → f 517 i = nI (w i)
def x_PC2 (f : Nat → Nat → Int32) (g : Nat → Nat → Int64) (L : Nat) (ρ : Nat → Nat → Option Nat) (dm : List Nat) (n : Nat) (S : xS) (D : Option (Nat → Nat)) : Option Value → xH → Prop := fun q h' =>
  ∃ F G, h' = (F, G, ρ, dm, n) ∧ q = some S.1 ∧ v_C F G L S.2.2 ∧ F 0 0 = S.2.1 ∧ (∀ j, j ≠ 0 → j ≠ 19 → F 0 j = f 0 j) ∧ G 0 = g 0 ∧ G (L + 2) = g (L + 2) ∧ (∀ k, k ≠ 0 → k < L ∨ L + 9 < k → k ≠ 100 → k ≠ 102 → k ≠ 103 → F k = f k ∧ G k = g k) ∧ x_DC F G D
def x_PM2 (f : Nat → Nat → Int32) (g : Nat → Nat → Int64) (ρ : Nat → Nat → Option Nat) (dm : List Nat) (n : Nat) (S : xS) (D : Option (Nat → Nat)) : Option Value → xH → Prop := fun q h' =>
  ∃ F, h' = (F, g, ρ, dm, n) ∧ q = some S.1 ∧ v_M (F 501) 0 S.2.2 ∧ (∀ j, 96 ≤ j → F 501 j = f 501 j) ∧ F 501 11 = f 501 11 ∧ F 500 2 = S.2.1 ∧ (∀ j, j ≠ 2 → j ≠ 32 → j ≠ 33 → j ≠ 37 → F 500 j = f 500 j) ∧ (∀ c, c ≠ 500 → c ≠ 501 → c ≠ 509 → c ≠ 510 → c ≠ 515 → c ≠ 516 → c ≠ 517 → F c = f c) ∧ x_DM F D
theorem y_in_it {s : xR} {NL N q0 : Nat} {v0 : xV} (hS : y_SV s NL (v0 2 0 0) (v0 0 0 0) (v0 1 0 0)) (hN : N + 2 ^ 33 < 2 ^ 60) : ∀ m e, y_in s NL N q0 v0 e → y_in s NL N q0 v0 (y_it s NL m e) := by
  intro m
  induction m with
  | zero => intro e h; exact h
  | succ m ih =>
    intro e h
    by_cases q : e.1 < NL
    · rw [y_it_S q]
      obtain ⟨k, R, v, ch, st, mi, mo, bo, le⟩ := e
      exact ih _ (y_in_one hS hN (show k < NL from q) h).1
    · rw [y_it_0 q]
      exact h
theorem y_life_in {N : Nat} {v : xV} {p : xR × Nat} {seed : Nat} (hS : y_SV p.1 p.2 (v 2 0 0) (v 0 0 0) (v 1 0 0)) (hBn : v_Bn N v) (hN : N + 2 ^ 33 < 2 ^ 60) (hs : seed < 65536) : y_in p.1 p.2 N (v 16 0 0) v (y_life v p seed) := y_in_it hS hN _ _ (y_in_0 hBn hs)
theorem x_up0_DC {f : Nat → Nat → Int32} {g : Nat → Nat → Int64} {D : Option (Nat → Nat)} {w : Int32} (h : x_DC f g D) : x_DC (x_up f 0 0 w) g D := by
  cases D with
  | none => exact (x_up_j (by decide)).trans h
  | some u => exact ⟨(x_up_j (by decide)).trans h.1, h.2⟩
theorem x_up2_DM {f : Nat → Nat → Int32} {D : Option (Nat → Nat)} {w : Int32} (h : x_DM f D) : x_DM (x_up f 500 2 w) D := by
  cases D with
  | none => exact (x_up_j (by decide)).trans h
  | some u => exact ⟨(x_up_j (by decide)).trans h.1, h.2⟩
theorem x_bo_nat (b : Bool) : x_bo b = nI b.toNat := by cases b <;> rfl
section C64
variable {f : Nat → Nat → Int32} {g : Nat → Nat → Int64} {r t : Nat} {dm : List Nat} {n d N : Nat} {v : xV} {ρ : Nat → Nat → Option Nat} {D : Option (Nat → Nat)} {S : xP}
theorem x_PC2_0 {L : Nat} (hL : 0 < L) (hC : v_C f g L v) (hD : x_DC f g D) {w : Value} {e : Int32} : x_PC2 f g L ρ dm n (w, e, v) D (some w) (x_up f 0 0 e, g, ρ, dm, n) :=
  ⟨_, g, rfl, rfl, v_C_fr hC (fun k a b => x_up_k (by omega)) rfl, x_up_s _ _ _ _, fun j a _ => x_up_j a, rfl, rfl, fun k a _ _ _ _ => ⟨x_up_k a, rfl⟩, x_up0_DC hD⟩
theorem x_PM2_0 (hM : v_M (f 501) 0 v) (hD : x_DM f D) {w : Value} {e : Int32} : x_PM2 f g ρ dm n (w, e, v) D (some w) (x_up f 500 2 e, g, ρ, dm, n) :=
  ⟨_, rfl, rfl, hM, fun _ _ => rfl, rfl, x_up_s _ _ _ _, fun j a _ _ _ => x_up_j a, fun c a _ _ _ _ _ _ => x_up_k a, x_up2_DM hD⟩
theorem c_live_12_32 {x : Int32} (hC : v_C f g 12 v) (hBn : v_Bn N v) (hN : N + 2 ^ 33 < 2 ^ 60) (hS : x_SO f 32 S) (hV : y_SO v S) (hD : x_DC f g D) : x_Ct 151 (d + 6) [.ref 0, .int x] (f, g, x_HR 12 32, dm, n) (x_PC2 f g 12 (x_HR 12 32) dm n (sp_live v S x) (y_told D v S x)) := by
  unfold sp_live y_told
  refine x_Ct_w (by decide) (Nat.le_of_ble_eq_true rfl) ok151 [] 6 ?_
  refine Exists.intro _ (And.intro (c_within (x := x) (lo := 0) (hi := 9999)) (And.intro (And.intro (Nat.zero_le _) (Nat.zero_le _)) (fun q h' hpo => ?_)))
  obtain ⟨rfl, rfl⟩ := hpo
  cases hx : x_wi x 0 9999 with
  | false =>
    refine And.intro (fun c => absurd rfl c) (fun _ => ?_)
    refine Exists.intro _ (And.intro c_refuse (And.intro (And.intro (Nat.zero_le _) (Nat.zero_le _)) (fun q h' hpo => ?_)))
    obtain ⟨rfl, rfl⟩ := hpo
    refine And.intro ?_ ⟨trivial, Nat.le_refl _, Nat.le_refl _⟩
    exact x_PC2_0 (by decide) hC hD
  | true =>
    refine And.intro (fun _ => ?_) (fun c => absurd c (by decide))
    obtain ⟨m, _, hm, rfl⟩ := x_wi_t (lo := 0) (hi := 9999) hx (by decide) (by decide)
    rw [x_c, nI_clamp (by omega)]
    cases S with
    | none =>
      have h0 : f 32 0 = 0 := hS
      refine And.intro (fun c => absurd h0 c) (fun _ => ?_)
      refine Exists.intro _ (And.intro c_refuse (And.intro (And.intro (Nat.zero_le _) (Nat.zero_le _)) (fun q h' hpo => ?_)))
      obtain ⟨rfl, rfl⟩ := hpo
      refine And.intro ?_ ⟨trivial, Nat.le_refl _, Nat.le_refl _⟩
      exact x_PC2_0 (by decide) hC hD
    | some p =>
      have h0 : f 32 0 = 1 := hS.1
      refine And.intro (fun _ => ?_) (fun c => absurd (h0.symm.trans (show f 32 0 = 0 from c)) (by decide))
      have hli := y_life_in (p := p) (seed := m) hV hBn hN (by omega)
      refine Exists.intro _ (And.intro (c_unfold_12_32_102 (d := d) (s := p.1) (NL := p.2) hC hBn hN hS.2 hV (by omega)) (And.intro (And.intro (Nat.zero_le _) (Nat.zero_le _)) (fun q h' hpo => ?_)))
      obtain ⟨F, G, rfl, rfl, hF, hG7⟩ := hpo
      refine And.intro (Or.inr rfl) ?_
      refine Exists.intro _ (And.intro c_answer (And.intro (And.intro (Nat.zero_le _) (Nat.zero_le _)) (fun q h' hpo => ?_)))
      obtain ⟨rfl, rfl⟩ := hpo
      refine And.intro ?_ ⟨trivial, Nat.le_refl _, Nat.le_refl _⟩
      show x_PC2 f g 12 (x_HR 12 32) dm n (.int (nI (y_life v p m).2.2.2.2.1), 0, (y_life v p m).2.2.1) (some (y_tl (v 16 0 0) (y_life v p m))) _ _
      have hF : x_EC f g 12 102 p.1 p.2 F G (y_life v p m) := hF
      have hG7 : G 102 7 = lN ((y_life v p m).2.2.1 16 0 0 - v 16 0 0) := hG7
      obtain ⟨E, hE⟩ : ∃ E, E = y_life v p m := ⟨_, rfl⟩
      rw [← hE] at hF hG7 hli ⊢
      obtain ⟨k, R, v1, ch, st, mi, mo, bo, le⟩ := E
      obtain ⟨a1, a2, a3, a4, a5, a6, a7, a8, a9, a10, a11⟩ := hF
      obtain ⟨i1, i2, i3, i4, i5, i6, i7, i8, i9, i10, i11⟩ := hli
      refine ⟨_, G, rfl, congrArg (fun z => some (Value.int z)) ?_, v_C_fr a1 (fun k q1 q2 => (x_up_k (by omega)).trans (x_up_k (by omega))) rfl, x_up_s _ _ _ _, fun j q1 q2 => (x_up_j q1).trans ((x_up_j q2).trans (by rw [a9 0 (by decide) (by decide) (by decide) (by decide)])), a10 0 (by decide) (by decide) (by decide), a11, fun c q1 q2 q3 q4 q5 => ⟨(x_up_k q1).trans ((x_up_k q1).trans (a9 c q2 q3 q4 q5)), a10 c q2 q3 q4⟩, ?_, ?_, ?_, ?_, hG7, ?_, ?_, ?_⟩
      · exact (show x_up F 0 19 1 102 3 = F 102 3 from rfl).trans a3
      · exact (x_up_j (by decide)).trans (x_up_s _ _ _ _)
      · exact (congrFun ((x_up_k (by decide)).trans (x_up_k (by decide))) _).trans a4
      · exact (congrFun ((x_up_k (by decide)).trans (x_up_k (by decide))) _).trans a5
      · exact (congrFun ((x_up_k (by decide)).trans (x_up_k (by decide))) _).trans a6
      · exact (congrFun ((x_up_k (by decide)).trans (x_up_k (by decide))) _).trans (a7.trans (x_bo_nat le))
      · show v1 16 0 0 - v 16 0 0 ≤ 999999999
        omega
      · show le.toNat ≤ 1
        cases le <;> decide
theorem c_live_22_32 {x : Int32} (hC : v_C f g 22 v) (hBn : v_Bn N v) (hN : N + 2 ^ 33 < 2 ^ 60) (hS : x_SO f 32 S) (hV : y_SO v S) (hD : x_DC f g D) : x_Ct 151 (d + 6) [.ref 0, .int x] (f, g, x_HR 22 32, dm, n) (x_PC2 f g 22 (x_HR 22 32) dm n (sp_live v S x) (y_told D v S x)) := by
  unfold sp_live y_told
  refine x_Ct_w (by decide) (Nat.le_of_ble_eq_true rfl) ok151 [] 6 ?_
  refine Exists.intro _ (And.intro (c_within (x := x) (lo := 0) (hi := 9999)) (And.intro (And.intro (Nat.zero_le _) (Nat.zero_le _)) (fun q h' hpo => ?_)))
  obtain ⟨rfl, rfl⟩ := hpo
  cases hx : x_wi x 0 9999 with
  | false =>
    refine And.intro (fun c => absurd rfl c) (fun _ => ?_)
    refine Exists.intro _ (And.intro c_refuse (And.intro (And.intro (Nat.zero_le _) (Nat.zero_le _)) (fun q h' hpo => ?_)))
    obtain ⟨rfl, rfl⟩ := hpo
    refine And.intro ?_ ⟨trivial, Nat.le_refl _, Nat.le_refl _⟩
    exact x_PC2_0 (by decide) hC hD
  | true =>
    refine And.intro (fun _ => ?_) (fun c => absurd c (by decide))
    obtain ⟨m, _, hm, rfl⟩ := x_wi_t (lo := 0) (hi := 9999) hx (by decide) (by decide)
    rw [x_c, nI_clamp (by omega)]
    cases S with
    | none =>
      have h0 : f 32 0 = 0 := hS
      refine And.intro (fun c => absurd h0 c) (fun _ => ?_)
      refine Exists.intro _ (And.intro c_refuse (And.intro (And.intro (Nat.zero_le _) (Nat.zero_le _)) (fun q h' hpo => ?_)))
      obtain ⟨rfl, rfl⟩ := hpo
      refine And.intro ?_ ⟨trivial, Nat.le_refl _, Nat.le_refl _⟩
      exact x_PC2_0 (by decide) hC hD
    | some p =>
      have h0 : f 32 0 = 1 := hS.1
      refine And.intro (fun _ => ?_) (fun c => absurd (h0.symm.trans (show f 32 0 = 0 from c)) (by decide))
      have hli := y_life_in (p := p) (seed := m) hV hBn hN (by omega)
      refine Exists.intro _ (And.intro (c_unfold_22_32_102 (d := d) (s := p.1) (NL := p.2) hC hBn hN hS.2 hV (by omega)) (And.intro (And.intro (Nat.zero_le _) (Nat.zero_le _)) (fun q h' hpo => ?_)))
      obtain ⟨F, G, rfl, rfl, hF, hG7⟩ := hpo
      refine And.intro (Or.inr rfl) ?_
      refine Exists.intro _ (And.intro c_answer (And.intro (And.intro (Nat.zero_le _) (Nat.zero_le _)) (fun q h' hpo => ?_)))
      obtain ⟨rfl, rfl⟩ := hpo
      refine And.intro ?_ ⟨trivial, Nat.le_refl _, Nat.le_refl _⟩
      show x_PC2 f g 22 (x_HR 22 32) dm n (.int (nI (y_life v p m).2.2.2.2.1), 0, (y_life v p m).2.2.1) (some (y_tl (v 16 0 0) (y_life v p m))) _ _
      have hF : x_EC f g 22 102 p.1 p.2 F G (y_life v p m) := hF
      have hG7 : G 102 7 = lN ((y_life v p m).2.2.1 16 0 0 - v 16 0 0) := hG7
      obtain ⟨E, hE⟩ : ∃ E, E = y_life v p m := ⟨_, rfl⟩
      rw [← hE] at hF hG7 hli ⊢
      obtain ⟨k, R, v1, ch, st, mi, mo, bo, le⟩ := E
      obtain ⟨a1, a2, a3, a4, a5, a6, a7, a8, a9, a10, a11⟩ := hF
      obtain ⟨i1, i2, i3, i4, i5, i6, i7, i8, i9, i10, i11⟩ := hli
      refine ⟨_, G, rfl, congrArg (fun z => some (Value.int z)) ?_, v_C_fr a1 (fun k q1 q2 => (x_up_k (by omega)).trans (x_up_k (by omega))) rfl, x_up_s _ _ _ _, fun j q1 q2 => (x_up_j q1).trans ((x_up_j q2).trans (by rw [a9 0 (by decide) (by decide) (by decide) (by decide)])), a10 0 (by decide) (by decide) (by decide), a11, fun c q1 q2 q3 q4 q5 => ⟨(x_up_k q1).trans ((x_up_k q1).trans (a9 c q2 q3 q4 q5)), a10 c q2 q3 q4⟩, ?_, ?_, ?_, ?_, hG7, ?_, ?_, ?_⟩
      · exact (show x_up F 0 19 1 102 3 = F 102 3 from rfl).trans a3
      · exact (x_up_j (by decide)).trans (x_up_s _ _ _ _)
      · exact (congrFun ((x_up_k (by decide)).trans (x_up_k (by decide))) _).trans a4
      · exact (congrFun ((x_up_k (by decide)).trans (x_up_k (by decide))) _).trans a5
      · exact (congrFun ((x_up_k (by decide)).trans (x_up_k (by decide))) _).trans a6
      · exact (congrFun ((x_up_k (by decide)).trans (x_up_k (by decide))) _).trans (a7.trans (x_bo_nat le))
      · show v1 16 0 0 - v 16 0 0 ≤ 999999999
        omega
      · show le.toNat ≤ 1
        cases le <;> decide
theorem c_live_12_39 {x : Int32} (hC : v_C f g 12 v) (hBn : v_Bn N v) (hN : N + 2 ^ 33 < 2 ^ 60) (hS : x_SO f 39 S) (hV : y_SO v S) (hD : x_DC f g D) : x_Ct 151 (d + 6) [.ref 0, .int x] (f, g, x_HR 12 39, dm, n) (x_PC2 f g 12 (x_HR 12 39) dm n (sp_live v S x) (y_told D v S x)) := by
  unfold sp_live y_told
  refine x_Ct_w (by decide) (Nat.le_of_ble_eq_true rfl) ok151 [] 6 ?_
  refine Exists.intro _ (And.intro (c_within (x := x) (lo := 0) (hi := 9999)) (And.intro (And.intro (Nat.zero_le _) (Nat.zero_le _)) (fun q h' hpo => ?_)))
  obtain ⟨rfl, rfl⟩ := hpo
  cases hx : x_wi x 0 9999 with
  | false =>
    refine And.intro (fun c => absurd rfl c) (fun _ => ?_)
    refine Exists.intro _ (And.intro c_refuse (And.intro (And.intro (Nat.zero_le _) (Nat.zero_le _)) (fun q h' hpo => ?_)))
    obtain ⟨rfl, rfl⟩ := hpo
    refine And.intro ?_ ⟨trivial, Nat.le_refl _, Nat.le_refl _⟩
    exact x_PC2_0 (by decide) hC hD
  | true =>
    refine And.intro (fun _ => ?_) (fun c => absurd c (by decide))
    obtain ⟨m, _, hm, rfl⟩ := x_wi_t (lo := 0) (hi := 9999) hx (by decide) (by decide)
    rw [x_c, nI_clamp (by omega)]
    cases S with
    | none =>
      have h0 : f 39 0 = 0 := hS
      refine And.intro (fun c => absurd h0 c) (fun _ => ?_)
      refine Exists.intro _ (And.intro c_refuse (And.intro (And.intro (Nat.zero_le _) (Nat.zero_le _)) (fun q h' hpo => ?_)))
      obtain ⟨rfl, rfl⟩ := hpo
      refine And.intro ?_ ⟨trivial, Nat.le_refl _, Nat.le_refl _⟩
      exact x_PC2_0 (by decide) hC hD
    | some p =>
      have h0 : f 39 0 = 1 := hS.1
      refine And.intro (fun _ => ?_) (fun c => absurd (h0.symm.trans (show f 39 0 = 0 from c)) (by decide))
      have hli := y_life_in (p := p) (seed := m) hV hBn hN (by omega)
      refine Exists.intro _ (And.intro (c_unfold_12_39_102 (d := d) (s := p.1) (NL := p.2) hC hBn hN hS.2 hV (by omega)) (And.intro (And.intro (Nat.zero_le _) (Nat.zero_le _)) (fun q h' hpo => ?_)))
      obtain ⟨F, G, rfl, rfl, hF, hG7⟩ := hpo
      refine And.intro (Or.inr rfl) ?_
      refine Exists.intro _ (And.intro c_answer (And.intro (And.intro (Nat.zero_le _) (Nat.zero_le _)) (fun q h' hpo => ?_)))
      obtain ⟨rfl, rfl⟩ := hpo
      refine And.intro ?_ ⟨trivial, Nat.le_refl _, Nat.le_refl _⟩
      show x_PC2 f g 12 (x_HR 12 39) dm n (.int (nI (y_life v p m).2.2.2.2.1), 0, (y_life v p m).2.2.1) (some (y_tl (v 16 0 0) (y_life v p m))) _ _
      have hF : x_EC f g 12 102 p.1 p.2 F G (y_life v p m) := hF
      have hG7 : G 102 7 = lN ((y_life v p m).2.2.1 16 0 0 - v 16 0 0) := hG7
      obtain ⟨E, hE⟩ : ∃ E, E = y_life v p m := ⟨_, rfl⟩
      rw [← hE] at hF hG7 hli ⊢
      obtain ⟨k, R, v1, ch, st, mi, mo, bo, le⟩ := E
      obtain ⟨a1, a2, a3, a4, a5, a6, a7, a8, a9, a10, a11⟩ := hF
      obtain ⟨i1, i2, i3, i4, i5, i6, i7, i8, i9, i10, i11⟩ := hli
      refine ⟨_, G, rfl, congrArg (fun z => some (Value.int z)) ?_, v_C_fr a1 (fun k q1 q2 => (x_up_k (by omega)).trans (x_up_k (by omega))) rfl, x_up_s _ _ _ _, fun j q1 q2 => (x_up_j q1).trans ((x_up_j q2).trans (by rw [a9 0 (by decide) (by decide) (by decide) (by decide)])), a10 0 (by decide) (by decide) (by decide), a11, fun c q1 q2 q3 q4 q5 => ⟨(x_up_k q1).trans ((x_up_k q1).trans (a9 c q2 q3 q4 q5)), a10 c q2 q3 q4⟩, ?_, ?_, ?_, ?_, hG7, ?_, ?_, ?_⟩
      · exact (show x_up F 0 19 1 102 3 = F 102 3 from rfl).trans a3
      · exact (x_up_j (by decide)).trans (x_up_s _ _ _ _)
      · exact (congrFun ((x_up_k (by decide)).trans (x_up_k (by decide))) _).trans a4
      · exact (congrFun ((x_up_k (by decide)).trans (x_up_k (by decide))) _).trans a5
      · exact (congrFun ((x_up_k (by decide)).trans (x_up_k (by decide))) _).trans a6
      · exact (congrFun ((x_up_k (by decide)).trans (x_up_k (by decide))) _).trans (a7.trans (x_bo_nat le))
      · show v1 16 0 0 - v 16 0 0 ≤ 999999999
        omega
      · show le.toNat ≤ 1
        cases le <;> decide
theorem c_live_22_39 {x : Int32} (hC : v_C f g 22 v) (hBn : v_Bn N v) (hN : N + 2 ^ 33 < 2 ^ 60) (hS : x_SO f 39 S) (hV : y_SO v S) (hD : x_DC f g D) : x_Ct 151 (d + 6) [.ref 0, .int x] (f, g, x_HR 22 39, dm, n) (x_PC2 f g 22 (x_HR 22 39) dm n (sp_live v S x) (y_told D v S x)) := by
  unfold sp_live y_told
  refine x_Ct_w (by decide) (Nat.le_of_ble_eq_true rfl) ok151 [] 6 ?_
  refine Exists.intro _ (And.intro (c_within (x := x) (lo := 0) (hi := 9999)) (And.intro (And.intro (Nat.zero_le _) (Nat.zero_le _)) (fun q h' hpo => ?_)))
  obtain ⟨rfl, rfl⟩ := hpo
  cases hx : x_wi x 0 9999 with
  | false =>
    refine And.intro (fun c => absurd rfl c) (fun _ => ?_)
    refine Exists.intro _ (And.intro c_refuse (And.intro (And.intro (Nat.zero_le _) (Nat.zero_le _)) (fun q h' hpo => ?_)))
    obtain ⟨rfl, rfl⟩ := hpo
    refine And.intro ?_ ⟨trivial, Nat.le_refl _, Nat.le_refl _⟩
    exact x_PC2_0 (by decide) hC hD
  | true =>
    refine And.intro (fun _ => ?_) (fun c => absurd c (by decide))
    obtain ⟨m, _, hm, rfl⟩ := x_wi_t (lo := 0) (hi := 9999) hx (by decide) (by decide)
    rw [x_c, nI_clamp (by omega)]
    cases S with
    | none =>
      have h0 : f 39 0 = 0 := hS
      refine And.intro (fun c => absurd h0 c) (fun _ => ?_)
      refine Exists.intro _ (And.intro c_refuse (And.intro (And.intro (Nat.zero_le _) (Nat.zero_le _)) (fun q h' hpo => ?_)))
      obtain ⟨rfl, rfl⟩ := hpo
      refine And.intro ?_ ⟨trivial, Nat.le_refl _, Nat.le_refl _⟩
      exact x_PC2_0 (by decide) hC hD
    | some p =>
      have h0 : f 39 0 = 1 := hS.1
      refine And.intro (fun _ => ?_) (fun c => absurd (h0.symm.trans (show f 39 0 = 0 from c)) (by decide))
      have hli := y_life_in (p := p) (seed := m) hV hBn hN (by omega)
      refine Exists.intro _ (And.intro (c_unfold_22_39_102 (d := d) (s := p.1) (NL := p.2) hC hBn hN hS.2 hV (by omega)) (And.intro (And.intro (Nat.zero_le _) (Nat.zero_le _)) (fun q h' hpo => ?_)))
      obtain ⟨F, G, rfl, rfl, hF, hG7⟩ := hpo
      refine And.intro (Or.inr rfl) ?_
      refine Exists.intro _ (And.intro c_answer (And.intro (And.intro (Nat.zero_le _) (Nat.zero_le _)) (fun q h' hpo => ?_)))
      obtain ⟨rfl, rfl⟩ := hpo
      refine And.intro ?_ ⟨trivial, Nat.le_refl _, Nat.le_refl _⟩
      show x_PC2 f g 22 (x_HR 22 39) dm n (.int (nI (y_life v p m).2.2.2.2.1), 0, (y_life v p m).2.2.1) (some (y_tl (v 16 0 0) (y_life v p m))) _ _
      have hF : x_EC f g 22 102 p.1 p.2 F G (y_life v p m) := hF
      have hG7 : G 102 7 = lN ((y_life v p m).2.2.1 16 0 0 - v 16 0 0) := hG7
      obtain ⟨E, hE⟩ : ∃ E, E = y_life v p m := ⟨_, rfl⟩
      rw [← hE] at hF hG7 hli ⊢
      obtain ⟨k, R, v1, ch, st, mi, mo, bo, le⟩ := E
      obtain ⟨a1, a2, a3, a4, a5, a6, a7, a8, a9, a10, a11⟩ := hF
      obtain ⟨i1, i2, i3, i4, i5, i6, i7, i8, i9, i10, i11⟩ := hli
      refine ⟨_, G, rfl, congrArg (fun z => some (Value.int z)) ?_, v_C_fr a1 (fun k q1 q2 => (x_up_k (by omega)).trans (x_up_k (by omega))) rfl, x_up_s _ _ _ _, fun j q1 q2 => (x_up_j q1).trans ((x_up_j q2).trans (by rw [a9 0 (by decide) (by decide) (by decide) (by decide)])), a10 0 (by decide) (by decide) (by decide), a11, fun c q1 q2 q3 q4 q5 => ⟨(x_up_k q1).trans ((x_up_k q1).trans (a9 c q2 q3 q4 q5)), a10 c q2 q3 q4⟩, ?_, ?_, ?_, ?_, hG7, ?_, ?_, ?_⟩
      · exact (show x_up F 0 19 1 102 3 = F 102 3 from rfl).trans a3
      · exact (x_up_j (by decide)).trans (x_up_s _ _ _ _)
      · exact (congrFun ((x_up_k (by decide)).trans (x_up_k (by decide))) _).trans a4
      · exact (congrFun ((x_up_k (by decide)).trans (x_up_k (by decide))) _).trans a5
      · exact (congrFun ((x_up_k (by decide)).trans (x_up_k (by decide))) _).trans a6
      · exact (congrFun ((x_up_k (by decide)).trans (x_up_k (by decide))) _).trans (a7.trans (x_bo_nat le))
      · show v1 16 0 0 - v 16 0 0 ≤ 999999999
        omega
      · show le.toNat ≤ 1
        cases le <;> decide
theorem c_lived_12 {x : Int32} (hC : v_C f g 12 v) (hD : x_DC f g D) : x_Ct 152 (d + 3) [.ref 0, .int x] (f, g, x_HR 12 t, dm, n) (x_PC f g 12 (x_HR 12 t) dm n (sp_lived v D x)) := by
  unfold sp_lived
  refine x_Ct_w (by decide) (Nat.le_of_ble_eq_true rfl) ok152 [] 6 ?_
  refine Exists.intro _ (And.intro (c_within (x := x) (lo := 0) (hi := 4)) (And.intro (And.intro (Nat.zero_le _) (Nat.zero_le _)) (fun q h' hpo => ?_)))
  obtain ⟨rfl, rfl⟩ := hpo
  cases hx : x_wi x 0 4 with
  | false =>
    refine And.intro (fun c => absurd rfl c) (fun _ => ?_)
    refine Exists.intro _ (And.intro c_refuse (And.intro (And.intro (Nat.zero_le _) (Nat.zero_le _)) (fun q h' hpo => ?_)))
    obtain ⟨rfl, rfl⟩ := hpo
    refine And.intro ?_ ⟨trivial, Nat.le_refl _, Nat.le_refl _⟩
    exact x_PC_0 (by decide) hC
  | true =>
    refine And.intro (fun _ => ?_) (fun c => absurd c (by decide))
    obtain ⟨m, _, hm, rfl⟩ := x_wi_t (lo := 0) (hi := 4) hx (by decide) (by decide)
    rw [x_c, nI_clamp (by omega)]
    cases D with
    | none =>
      have h0 : f 0 19 = 0 := hD
      refine And.intro (fun c => absurd h0 c) (fun _ => ?_)
      refine Exists.intro _ (And.intro c_refuse (And.intro (And.intro (Nat.zero_le _) (Nat.zero_le _)) (fun q h' hpo => ?_)))
      obtain ⟨rfl, rfl⟩ := hpo
      refine And.intro ?_ ⟨trivial, Nat.le_refl _, Nat.le_refl _⟩
      exact x_PC_0 (by decide) hC
    | some w =>
      obtain ⟨e0, e1, e2, e3, e4, e5, e6, e7⟩ := hD
      refine And.intro (fun _ => ?_) (fun c => absurd (e0.symm.trans (show f 0 19 = 0 from c)) (by decide))
      have cl : x_V 44 (d + 2) [.ref 102, .int (nI m)] (f, g, x_HR 12 t, dm, n) (.int (nI (w m))) (f, g, x_HR 12 t, dm, n) := by
        have ww : (nI m).toInt = m := nI_toInt (by omega)
        refine x_Ct_w (by decide) (Nat.le_of_ble_eq_true rfl) ok44 [] 6 ?_
        refine And.intro (And.intro (fun c => ?_) (And.intro (fun c => ?_) (And.intro (fun c => ?_) (And.intro (fun c => ?_) trivial)))) (fun c => ?_)
        · obtain rfl : m = 0 := by have := ww.symm.trans c; omega
          rw [← e1]
          exact And.intro ⟨rfl, rfl⟩ ⟨trivial, Nat.le_refl _, Nat.le_refl _⟩
        · obtain rfl : m = 1 := by have := ww.symm.trans c; omega
          rw [← e2]
          exact And.intro ⟨rfl, rfl⟩ ⟨trivial, Nat.le_refl _, Nat.le_refl _⟩
        · obtain rfl : m = 2 := by have := ww.symm.trans c; omega
          rw [← e3]
          exact And.intro ⟨rfl, rfl⟩ ⟨trivial, Nat.le_refl _, Nat.le_refl _⟩
        · obtain rfl : m = 3 := by have := ww.symm.trans c; omega
          have e9 : some (Value.int (if g 102 7 < lN 999999999 then g 102 7 else lN 999999999).toInt32) = some (Value.int (nI (w 3))) := by
            rw [e4]
            by_cases q : lN (w 3) < lN 999999999
            · rw [if_pos q, lN_i]
            · rw [if_neg q]
              rw [pk_lLT (by omega) (by decide)] at q
              rw [lN_i, show w 3 = 999999999 by omega]
          exact And.intro ⟨e9, rfl⟩ ⟨trivial, Nat.le_refl _, Nat.le_refl _⟩
        · obtain rfl : m = 4 := by rw [ww] at c; omega
          refine And.intro (fun z => ?_) (fun z => ?_)
          · have z : f 102 8 = nI 0 := z
            rw [e5, nI_eq (by omega) (by decide)] at z
            rw [z]
            exact And.intro ⟨rfl, rfl⟩ ⟨trivial, Nat.le_refl _, Nat.le_refl _⟩
          · have z : ¬ f 102 8 = nI 0 := z
            rw [e5, nI_eq (by omega) (by decide)] at z
            rw [show w 4 = 1 by omega]
            exact And.intro ⟨rfl, rfl⟩ ⟨trivial, Nat.le_refl _, Nat.le_refl _⟩
      refine Exists.intro _ (And.intro cl (And.intro (And.intro (Nat.zero_le _) (Nat.zero_le _)) (fun q h' hpo => ?_)))
      obtain ⟨rfl, rfl⟩ := hpo
      refine Exists.intro _ (And.intro c_answer (And.intro (And.intro (Nat.zero_le _) (Nat.zero_le _)) (fun q h' hpo => ?_)))
      obtain ⟨rfl, rfl⟩ := hpo
      refine And.intro ?_ ⟨trivial, Nat.le_refl _, Nat.le_refl _⟩
      exact x_PC_0 (by decide) hC
theorem c_lived_22 {x : Int32} (hC : v_C f g 22 v) (hD : x_DC f g D) : x_Ct 152 (d + 3) [.ref 0, .int x] (f, g, x_HR 22 t, dm, n) (x_PC f g 22 (x_HR 22 t) dm n (sp_lived v D x)) := by
  unfold sp_lived
  refine x_Ct_w (by decide) (Nat.le_of_ble_eq_true rfl) ok152 [] 6 ?_
  refine Exists.intro _ (And.intro (c_within (x := x) (lo := 0) (hi := 4)) (And.intro (And.intro (Nat.zero_le _) (Nat.zero_le _)) (fun q h' hpo => ?_)))
  obtain ⟨rfl, rfl⟩ := hpo
  cases hx : x_wi x 0 4 with
  | false =>
    refine And.intro (fun c => absurd rfl c) (fun _ => ?_)
    refine Exists.intro _ (And.intro c_refuse (And.intro (And.intro (Nat.zero_le _) (Nat.zero_le _)) (fun q h' hpo => ?_)))
    obtain ⟨rfl, rfl⟩ := hpo
    refine And.intro ?_ ⟨trivial, Nat.le_refl _, Nat.le_refl _⟩
    exact x_PC_0 (by decide) hC
  | true =>
    refine And.intro (fun _ => ?_) (fun c => absurd c (by decide))
    obtain ⟨m, _, hm, rfl⟩ := x_wi_t (lo := 0) (hi := 4) hx (by decide) (by decide)
    rw [x_c, nI_clamp (by omega)]
    cases D with
    | none =>
      have h0 : f 0 19 = 0 := hD
      refine And.intro (fun c => absurd h0 c) (fun _ => ?_)
      refine Exists.intro _ (And.intro c_refuse (And.intro (And.intro (Nat.zero_le _) (Nat.zero_le _)) (fun q h' hpo => ?_)))
      obtain ⟨rfl, rfl⟩ := hpo
      refine And.intro ?_ ⟨trivial, Nat.le_refl _, Nat.le_refl _⟩
      exact x_PC_0 (by decide) hC
    | some w =>
      obtain ⟨e0, e1, e2, e3, e4, e5, e6, e7⟩ := hD
      refine And.intro (fun _ => ?_) (fun c => absurd (e0.symm.trans (show f 0 19 = 0 from c)) (by decide))
      have cl : x_V 44 (d + 2) [.ref 102, .int (nI m)] (f, g, x_HR 22 t, dm, n) (.int (nI (w m))) (f, g, x_HR 22 t, dm, n) := by
        have ww : (nI m).toInt = m := nI_toInt (by omega)
        refine x_Ct_w (by decide) (Nat.le_of_ble_eq_true rfl) ok44 [] 6 ?_
        refine And.intro (And.intro (fun c => ?_) (And.intro (fun c => ?_) (And.intro (fun c => ?_) (And.intro (fun c => ?_) trivial)))) (fun c => ?_)
        · obtain rfl : m = 0 := by have := ww.symm.trans c; omega
          rw [← e1]
          exact And.intro ⟨rfl, rfl⟩ ⟨trivial, Nat.le_refl _, Nat.le_refl _⟩
        · obtain rfl : m = 1 := by have := ww.symm.trans c; omega
          rw [← e2]
          exact And.intro ⟨rfl, rfl⟩ ⟨trivial, Nat.le_refl _, Nat.le_refl _⟩
        · obtain rfl : m = 2 := by have := ww.symm.trans c; omega
          rw [← e3]
          exact And.intro ⟨rfl, rfl⟩ ⟨trivial, Nat.le_refl _, Nat.le_refl _⟩
        · obtain rfl : m = 3 := by have := ww.symm.trans c; omega
          have e9 : some (Value.int (if g 102 7 < lN 999999999 then g 102 7 else lN 999999999).toInt32) = some (Value.int (nI (w 3))) := by
            rw [e4]
            by_cases q : lN (w 3) < lN 999999999
            · rw [if_pos q, lN_i]
            · rw [if_neg q]
              rw [pk_lLT (by omega) (by decide)] at q
              rw [lN_i, show w 3 = 999999999 by omega]
          exact And.intro ⟨e9, rfl⟩ ⟨trivial, Nat.le_refl _, Nat.le_refl _⟩
        · obtain rfl : m = 4 := by rw [ww] at c; omega
          refine And.intro (fun z => ?_) (fun z => ?_)
          · have z : f 102 8 = nI 0 := z
            rw [e5, nI_eq (by omega) (by decide)] at z
            rw [z]
            exact And.intro ⟨rfl, rfl⟩ ⟨trivial, Nat.le_refl _, Nat.le_refl _⟩
          · have z : ¬ f 102 8 = nI 0 := z
            rw [e5, nI_eq (by omega) (by decide)] at z
            rw [show w 4 = 1 by omega]
            exact And.intro ⟨rfl, rfl⟩ ⟨trivial, Nat.le_refl _, Nat.le_refl _⟩
      refine Exists.intro _ (And.intro cl (And.intro (And.intro (Nat.zero_le _) (Nat.zero_le _)) (fun q h' hpo => ?_)))
      obtain ⟨rfl, rfl⟩ := hpo
      refine Exists.intro _ (And.intro c_answer (And.intro (And.intro (Nat.zero_le _) (Nat.zero_le _)) (fun q h' hpo => ?_)))
      obtain ⟨rfl, rfl⟩ := hpo
      refine And.intro ?_ ⟨trivial, Nat.le_refl _, Nat.le_refl _⟩
      exact x_PC_0 (by decide) hC
theorem m_live {x : Int32} (hM : v_M (f 501) 0 v) (hBn : v_Bn N v) (hN : N + 2 ^ 33 < 2 ^ 60) (hS : x_SN (f 501) S) (hV : y_SO v S) (hD : x_DM f D) : x_Ct 322 (d + 9) [.ref 500, .int x] (f, g, x_HR r t, dm, n) (x_PM2 f g (x_HR r t) dm n (sp_live v S x) (y_told D v S x)) := by
  unfold sp_live y_told
  refine x_Ct_w (by decide) (Nat.le_of_ble_eq_true rfl) ok322 [43] 6 ?_
  refine Exists.intro _ (And.intro (m_isFrom (lo := 0) (hi := 9999)) (And.intro (And.intro (Nat.zero_le _) (Nat.zero_le _)) (fun q h' hpo => ?_)))
  obtain ⟨rfl, rfl⟩ := hpo
  rw [x_wl_wi (lo' := 0) (hi' := 9999) rfl rfl]
  cases hx : x_wi x 0 9999 with
  | false =>
    refine And.intro (fun c => absurd rfl c) (fun _ => ?_)
    refine Exists.intro _ (And.intro m_refuse (And.intro (And.intro (Nat.zero_le _) (Nat.zero_le _)) (fun q h' hpo => ?_)))
    obtain ⟨rfl, rfl⟩ := hpo
    refine And.intro ?_ ⟨trivial, Nat.le_refl _, Nat.le_refl _⟩
    exact x_PM2_0 hM hD
  | true =>
    refine And.intro (fun _ => ?_) (fun c => absurd c (by decide))
    obtain ⟨m, _, hm, rfl⟩ := x_wi_t (lo := 0) (hi := 9999) hx (by decide) (by decide)
    rw [x_c, nI_clamp (by omega)]
    refine And.intro (x_ix_nI (j := 11) (by decide) (by decide)) ?_
    cases S with
    | none =>
      have h0 : f 501 11 = -1 := hS
      refine And.intro (fun c => absurd h0 c) (fun _ => ?_)
      refine Exists.intro _ (And.intro m_refuse (And.intro (And.intro (Nat.zero_le _) (Nat.zero_le _)) (fun q h' hpo => ?_)))
      obtain ⟨rfl, rfl⟩ := hpo
      refine And.intro ?_ ⟨trivial, Nat.le_refl _, Nat.le_refl _⟩
      exact x_PM2_0 hM hD
    | some p =>
      have hS : x_SM (f 501) p.1 p.2 := hS
      have hNL := hV.1
      refine And.intro (fun _ => ?_) (fun c => absurd (show f 501 11 = -1 from c) (by rw [hS.1]; exact x_nIm (by omega)))
      refine Exists.intro _ (And.intro (m_lives (d := d) (s := p.1) (NL := p.2) hM hBn hN hS hV (by omega)) (And.intro (And.intro (Nat.zero_le _) (Nat.zero_le _)) (fun q h' hpo => ?_)))
      obtain ⟨F, rfl, rfl, hF⟩ := hpo
      show x_J 322 (d + 9) (x_PM2 f g (x_HR r t) dm n (.int (nI (y_life v p m).2.2.2.2.1), 0, (y_life v p m).2.2.1) (some (y_tl (v 16 0 0) (y_life v p m)))) 43 [some (.ref 500), some (.int (nI m)), some (.int (nI 0))] [] (F, g, x_HR r t, dm, n) 0 0
      have hF : x_EN f F (v 16 0 0) (y_life v p m).2.2.1 (y_life v p m).2.2.2.1 (y_life v p m).2.2.2.2.1 (y_life v p m).2.2.2.2.2.1 (y_life v p m).2.2.2.2.2.2.1 (y_life v p m).2.2.2.2.2.2.2.1 (y_life v p m).2.2.2.2.2.2.2.2 := hF
      obtain ⟨E, hE⟩ : ∃ E, E = y_life v p m := ⟨_, rfl⟩
      rw [← hE] at hF ⊢
      obtain ⟨k, R, v1, ch, st, mi, mo, bo, le⟩ := E
      obtain ⟨a1, a2, a3, a4, a5, a6, a7, a8, a9, a10, a11, a12⟩ := hF
      have tl : ∀ i, i < 5 → F 516 i = nI (y_tl (v 16 0 0) (k, R, v1, ch, st, mi, mo, bo, le) i) := by
        intro i hi
        match i, hi with
        | 0, _ => exact a5
        | 1, _ => exact a6
        | 2, _ => exact a7
        | 3, _ => exact a8
        | 4, _ => exact a9.trans (x_bo_nat le)
      have loop : ∀ q i F1, i + q = 5 → (∀ c, c ≠ 517 → F1 c = F c) → (∀ j, j < i → F1 517 j = F 516 j) → x_J 322 (d + 9) (x_PM2 f g (x_HR r t) dm n (.int (nI st), 0, v1) (some (y_tl (v 16 0 0) (k, R, v1, ch, st, mi, mo, bo, le)))) 43 [some (.ref 500), some (.int (nI m)), some (.int (nI i))] [] (F1, g, x_HR r t, dm, n) 0 0 := by
        intro q
        induction q with
        | zero =>
          intro i F1 hi h1 h2
          obtain rfl : i = 5 := by omega
          refine x_wp_ok ok322 [43] 6 ?_
          refine And.intro (fun _ => ?_) (fun c => absurd (show nI 5 ≤ nI 5 by decide) c)
          refine And.intro (Or.inr rfl) ?_
          refine Exists.intro _ (And.intro m_gives (And.intro (And.intro (Nat.zero_le _) (Nat.zero_le _)) (fun q h' hpo => ?_)))
          obtain ⟨rfl, rfl⟩ := hpo
          refine And.intro ?_ ⟨trivial, Nat.le_refl _, Nat.le_refl _⟩
          have e1 := h1 501 (by decide)
          have e0 := h1 500 (by decide)
          refine ⟨_, rfl, congrArg (fun z => some (Value.int z)) ?_, ?_, ?_, ?_, x_up_s _ _ _ _, ?_, ?_, ?_, ?_⟩
          · exact (show x_up F1 500 37 1 500 33 = F1 500 33 from rfl).trans (by rw [e0]; exact a11)
          · show v_M (F1 501) 0 v1
            rw [e1]; exact a1
          · intro j hj
            show F1 501 j = _
            rw [e1]; exact a2 j hj
          · show F1 501 11 = _
            rw [e1]; exact a3
          · intro j q1 q2 q3 q4
            exact (x_up_j q1).trans ((x_up_j q4).trans (by rw [e0]; exact a12 j q2 q3))
          · intro c q1 q2 q3 q4 q5 q6 q7
            exact (x_up_k q1).trans ((x_up_k q1).trans ((h1 c q7).trans (a4 c q2 q3 q4 q5 q6 q1)))
          · exact (x_up_j (by decide)).trans (x_up_s _ _ _ _)
          · intro i hi
            show F1 517 i = _
            rw [h2 i hi]
            exact tl i hi
        | succ q ih =>
          intro i F1 hi h1 h2
          refine x_wp_ok ok322 [43] 6 ?_
          refine And.intro (fun c => absurd (show nI 5 ≤ nI i from c) (nI_ge (by omega) (by decide))) (fun _ => ?_)
          refine And.intro (x_ix_nI (by omega) (by omega)) ?_
          rw [nI_clamp (by omega)]
          refine And.intro (x_ix_nI (by omega) (by omega)) ?_
          rw [nI_clamp (by omega)]
          have e := ih (i + 1) (x_up F1 517 i (F1 516 i)) (by omega) (fun c z => (x_up_k z).trans (h1 c z)) (fun j z => by
            by_cases hj : j = i
            · rw [hj, x_up_s, h1 516 (by decide)]
            · rw [x_up_j hj]
              exact h2 j (by omega))
          rw [← nI_1o] at e
          exact e
      exact loop 5 0 F (by decide) (fun _ _ => rfl) (fun j z => absurd z (Nat.not_lt_zero _))
theorem m_lived {x : Int32} (hM : v_M (f 501) 0 v) (hD : x_DM f D) : x_Ct 323 (d + 1) [.ref 500, .int x] (f, g, x_HR r t, dm, n) (x_PM f g (x_HR r t) dm n (sp_lived v D x)) := by
  unfold sp_lived
  refine x_Ct_w (by decide) (Nat.le_of_ble_eq_true rfl) ok323 [] 6 ?_
  refine And.intro (fun c => ?_) (fun c => ?_)
  · have c : x < 0 := c
    rw [x_lt, x_i0] at c
    have hx : x_wi x 0 4 = false := by simp only [x_wi, Bool.and_eq_false_iff, decide_eq_false_iff_not]; exact Or.inl (by show ¬ (0 : Int32).toInt ≤ x.toInt; rw [x_i0]; omega)
    rw [hx]
    refine Exists.intro _ (And.intro m_refuse (And.intro (And.intro (Nat.zero_le _) (Nat.zero_le _)) (fun q h' hpo => ?_)))
    obtain ⟨rfl, rfl⟩ := hpo
    refine And.intro ?_ ⟨trivial, Nat.le_refl _, Nat.le_refl _⟩
    exact x_PM_0 hM
  · have c : ¬ x < 0 := c
    rw [x_lt, x_i0] at c
    refine And.intro (fun c2 => ?_) (fun c2 => ?_)
    · have c2 : x ≤ 4 := c2
      rw [x_le] at c2
      have hx : x_wi x 0 4 = true := by simp only [x_wi, Bool.and_eq_true, decide_eq_true_eq]; exact ⟨by show (0 : Int32).toInt ≤ x.toInt; rw [x_i0]; omega, c2⟩
      rw [hx]
      obtain ⟨m, _, hm, rfl⟩ := x_wi_t (lo := 0) (hi := 4) hx (by decide) (by decide)
      rw [x_c, nI_clamp (by omega)]
      cases D with
      | none =>
        have h0 : f 500 37 = 0 := hD
        refine And.intro (fun _ => ?_) (fun c => absurd h0 c)
        refine Exists.intro _ (And.intro m_refuse (And.intro (And.intro (Nat.zero_le _) (Nat.zero_le _)) (fun q h' hpo => ?_)))
        obtain ⟨rfl, rfl⟩ := hpo
        refine And.intro ?_ ⟨trivial, Nat.le_refl _, Nat.le_refl _⟩
        exact x_PM_0 hM
      | some w =>
        obtain ⟨e0, e1⟩ := hD
        refine And.intro (fun c => absurd (e0.symm.trans (show f 500 37 = 0 from c)) (by decide)) (fun _ => ?_)
        refine And.intro (x_ix_nI (by omega) (by omega)) ?_
        rw [nI_clamp (by omega)]
        refine Exists.intro _ (And.intro m_gives (And.intro (And.intro (Nat.zero_le _) (Nat.zero_le _)) (fun q h' hpo => ?_)))
        obtain ⟨rfl, rfl⟩ := hpo
        refine And.intro ?_ ⟨trivial, Nat.le_refl _, Nat.le_refl _⟩
        have := e1 m (by omega)
        show x_PM f g (x_HR r t) dm n (.int (nI (w m)), 0, v) _ _
        rw [← this]
        exact x_PM_0 hM
    · have c2 : ¬ x ≤ 4 := c2
      rw [x_le] at c2
      have hx : x_wi x 0 4 = false := by simp only [x_wi, Bool.and_eq_false_iff, decide_eq_false_iff_not]; exact Or.inr c2
      rw [hx]
      refine Exists.intro _ (And.intro m_refuse (And.intro (And.intro (Nat.zero_le _) (Nat.zero_le _)) (fun q h' hpo => ?_)))
      obtain ⟨rfl, rfl⟩ := hpo
      refine And.intro ?_ ⟨trivial, Nat.le_refl _, Nat.le_refl _⟩
      exact x_PM_0 hM
end C64
