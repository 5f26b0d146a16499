/-! CALLS by contracts that say the answer and the heap -/
abbrev x_V (a d : Nat) (As : List Value) (h : xH) (v : Value) (h1 : xH) : Prop := x_Ct a d As h (fun q h' => q = some v ∧ h' = h1)
section C16
variable {f : Nat → Nat → Int32} {g : Nat → Nat → Int64} {ρ : Nat → Nat → Option Nat} {dm : List Nat} {n d : Nat} {h : xH}
/-! the class: answers -/
theorem c_answer {v : Int32} : x_V 156 d [.ref 0, .int v] (f, g, ρ, dm, n) (.int v) (x_up f 0 0 0, g, ρ, dm, n) :=
  x_Ct_w (by decide) (Nat.le_of_ble_eq_true rfl) ok156 [] 2 (And.intro ⟨rfl, rfl⟩ ⟨trivial, Nat.le_refl _, Nat.le_refl _⟩)
theorem c_refuse {w : Int32} : x_V 157 d [.ref 0, .int w] (f, g, ρ, dm, n) (.int (-1)) (x_up f 0 0 w, g, ρ, dm, n) :=
  x_Ct_w (by decide) (Nat.le_of_ble_eq_true rfl) ok157 [] 2 (And.intro ⟨rfl, rfl⟩ ⟨trivial, Nat.le_refl _, Nat.le_refl _⟩)
theorem c_agreed : x_V 159 d [.ref 0] (f, g, ρ, dm, n) (.int 1) (x_up f 0 0 0, g, ρ, dm, n) :=
  x_Ct_w (by decide) (Nat.le_of_ble_eq_true rfl) ok159 [] 2 (And.intro ⟨rfl, rfl⟩ ⟨Or.inr rfl, Nat.le_refl _, Nat.le_refl _⟩)
theorem c_refused {w : Int32} : x_V 160 d [.ref 0, .int w] (f, g, ρ, dm, n) (.int 0) (x_up f 0 0 w, g, ρ, dm, n) :=
  x_Ct_w (by decide) (Nat.le_of_ble_eq_true rfl) ok160 [] 2 (And.intro ⟨rfl, rfl⟩ ⟨Or.inl rfl, Nat.le_refl _, Nat.le_refl _⟩)
theorem c_ifDone {v : Int32} : x_V 158 (d + 1) [.ref 0, .int v] (f, g, ρ, dm, n) (.int v) (x_up f 0 0 (if v = -1 then 7 else 0), g, ρ, dm, n) := by
  refine x_Ct_w (by decide) (Nat.le_of_ble_eq_true rfl) ok158 [] 4 ?_
  refine And.intro (fun c => ?_) (fun c => ?_)
  · have c : ¬ v = -1 := c
    rw [if_neg c]
    refine Exists.intro _ (And.intro c_answer (And.intro (And.intro (Nat.zero_le _) (Nat.zero_le _)) (fun q h' hp => ?_)))
    obtain ⟨rfl, rfl⟩ := hp
    exact And.intro ⟨rfl, rfl⟩ ⟨trivial, Nat.le_refl _, Nat.le_refl _⟩
  · have c : v = -1 := c
    rw [if_pos c, c]
    refine Exists.intro _ (And.intro c_refuse (And.intro (And.intro (Nat.zero_le _) (Nat.zero_le _)) (fun q h' hp => ?_)))
    obtain ⟨rfl, rfl⟩ := hp
    exact And.intro ⟨rfl, rfl⟩ ⟨trivial, Nat.le_refl _, Nat.le_refl _⟩
/-- least ≤ value ≤ most -/
def x_wi (x lo hi : Int32) : Bool := decide (lo.toInt ≤ x.toInt) && decide (x.toInt ≤ hi.toInt)
theorem c_within {x lo hi : Int32} : x_V 161 d [.int x, .int lo, .int hi] h (.int (x_bo (x_wi x lo hi))) h := by
  refine x_Ct_w (by decide) (Nat.le_of_ble_eq_true rfl) ok161 [] 4 ?_
  refine And.intro (fun c => ?_) (fun c => ?_)
  · have c : x < lo := c
    rw [x_lt] at c
    have hb : x_wi x lo hi = false := by simp only [x_wi, Bool.and_eq_false_iff, decide_eq_false_iff_not]; omega
    exact And.intro ⟨by rw [hb]; rfl, rfl⟩ ⟨Or.inl rfl, Nat.le_refl _, Nat.le_refl _⟩
  · have c : ¬ x < lo := c
    rw [x_lt] at c
    refine And.intro (fun c2 => ?_) (fun c2 => ?_)
    · have c2 : hi < x := c2
      rw [x_lt] at c2
      have hb : x_wi x lo hi = false := by simp only [x_wi, Bool.and_eq_false_iff, decide_eq_false_iff_not]; omega
      exact And.intro ⟨by rw [hb]; rfl, rfl⟩ ⟨Or.inl rfl, Nat.le_refl _, Nat.le_refl _⟩
    · have c2 : ¬ hi < x := c2
      rw [x_lt] at c2
      have hb : x_wi x lo hi = true := by simp only [x_wi, Bool.and_eq_true, decide_eq_true_eq]; omega
      exact And.intro ⟨by rw [hb]; rfl, rfl⟩ ⟨Or.inr rfl, Nat.le_refl _, Nat.le_refl _⟩
theorem x_bo_rk (b : Bool) : x_bo b = 0 ∨ x_bo b = 1 := by cases b <;> decide
theorem c_isAmount {x : Int32} : x_V 162 (d + 1) [.int x] h (.int (x_bo (x_wi x 1 999))) h := by
  refine x_Ct_w (by decide) (Nat.le_of_ble_eq_true rfl) ok162 [] 2 ?_
  refine Exists.intro _ (And.intro c_within (And.intro (And.intro (Nat.zero_le _) (Nat.zero_le _)) (fun q h' hp => ?_)))
  obtain ⟨rfl, rfl⟩ := hp
  exact And.intro ⟨rfl, rfl⟩ ⟨x_bo_rk _, Nat.le_refl _, Nat.le_refl _⟩
theorem c_isSum {x : Int32} : x_V 163 (d + 1) [.int x] h (.int (x_bo (x_wi x 0 999))) h := by
  refine x_Ct_w (by decide) (Nat.le_of_ble_eq_true rfl) ok163 [] 2 ?_
  refine Exists.intro _ (And.intro c_within (And.intro (And.intro (Nat.zero_le _) (Nat.zero_le _)) (fun q h' hp => ?_)))
  obtain ⟨rfl, rfl⟩ := hp
  exact And.intro ⟨rfl, rfl⟩ ⟨x_bo_rk _, Nat.le_refl _, Nat.le_refl _⟩
theorem c_isTray {x : Int32} : x_V 164 (d + 1) [.int x] h (.int (x_bo (x_wi x 0 3))) h := by
  refine x_Ct_w (by decide) (Nat.le_of_ble_eq_true rfl) ok164 [] 2 ?_
  refine Exists.intro _ (And.intro c_within (And.intro (And.intro (Nat.zero_le _) (Nat.zero_le _)) (fun q h' hp => ?_)))
  obtain ⟨rfl, rfl⟩ := hp
  exact And.intro ⟨rfl, rfl⟩ ⟨x_bo_rk _, Nat.le_refl _, Nat.le_refl _⟩
theorem x_wi_t {x : Int32} {lo hi : Nat} (h : x_wi x (nI lo) (nI hi) = true) (h2 : hi < 2 ^ 30) (h3 : lo ≤ hi) : ∃ j : Nat, lo ≤ j ∧ j ≤ hi ∧ x = nI j := by
  simp only [x_wi, Bool.and_eq_true, decide_eq_true_eq] at h
  obtain ⟨g1, g2⟩ := h
  have e1 : (nI lo).toInt = (lo : Int) := nI_toInt (by omega)
  have e2 : (nI hi).toInt = (hi : Int) := nI_toInt (by omega)
  rw [e1] at g1
  rw [e2] at g2
  obtain ⟨j, hj, rfl⟩ := vp_in_of (x := x) (n := hi + 1) (vp_in_iff.mpr ⟨by omega, by omega⟩) (by omega)
  have e3 : (nI j).toInt = (j : Int) := nI_toInt (by omega)
  exact ⟨j, by omega, by omega, rfl⟩
theorem x_wi_nI {j lo hi : Nat} (h1 : lo ≤ j) (h2 : j ≤ hi) (h3 : hi < 2 ^ 31) : x_wi (nI j) (nI lo) (nI hi) = true := by
  simp only [x_wi, Bool.and_eq_true, decide_eq_true_eq]
  rw [nI_toInt (by omega), nI_toInt (by omega), nI_toInt h3]
  omega
/-! the class: what there is -/
theorem c_hasGood {L : Nat} {x : Int32} {N : Nat} (hL : (x_SH L).1 = 0) (hN : x_i h L 1 = nI N) (hN2 : N ≤ 5) : x_V 4 d [.ref L, .int x] h (.int (x_bo (x_ixb x N))) h := by
  have hn : (nI N).toInt = N := nI_toInt (by omega)
  refine x_Ct_w (by decide) (Nat.le_of_ble_eq_true rfl) ok4 [] 5 ?_
  refine And.intro (fun c => ?_) (fun c => ?_)
  · have c : x < 0 := c
    rw [x_lt, x_i0] at c
    have hb : x_ixb x N = false := by simp only [x_ixb, Bool.and_eq_false_iff, decide_eq_false_iff_not]; omega
    exact And.intro ⟨by rw [hb]; rfl, rfl⟩ ⟨Or.inl rfl, Nat.le_refl _, Nat.le_refl _⟩
  · have c : ¬ x < 0 := c
    rw [x_lt, x_i0] at c
    refine x_bi (beq_iff_eq.mpr hL) ?_
    refine And.intro (fun c2 => ?_) (fun c2 => ?_)
    · have c2 : x_i h L 1 ≤ x := c2
      rw [hN, x_le, hn] at c2
      have hb : x_ixb x N = false := by simp only [x_ixb, Bool.and_eq_false_iff, decide_eq_false_iff_not]; omega
      exact And.intro ⟨by rw [hb]; rfl, rfl⟩ ⟨Or.inl rfl, Nat.le_refl _, Nat.le_refl _⟩
    · have c2 : ¬ x_i h L 1 ≤ x := c2
      rw [hN, x_le, hn] at c2
      have hb : x_ixb x N = true := by simp only [x_ixb, Bool.and_eq_true, decide_eq_true_eq]; omega
      exact And.intro ⟨by rw [hb]; rfl, rfl⟩ ⟨Or.inr rfl, Nat.le_refl _, Nat.le_refl _⟩
theorem c_hasPerson {L : Nat} {x : Int32} {N : Nat} (hL : (x_SH L).1 = 0) (hN : x_i h L 2 = nI N) (hN2 : N ≤ 5) : x_V 5 d [.ref L, .int x] h (.int (x_bo (x_ixb x N))) h := by
  have hn : (nI N).toInt = N := nI_toInt (by omega)
  refine x_Ct_w (by decide) (Nat.le_of_ble_eq_true rfl) ok5 [] 5 ?_
  refine And.intro (fun c => ?_) (fun c => ?_)
  · have c : x < 0 := c
    rw [x_lt, x_i0] at c
    have hb : x_ixb x N = false := by simp only [x_ixb, Bool.and_eq_false_iff, decide_eq_false_iff_not]; omega
    exact And.intro ⟨by rw [hb]; rfl, rfl⟩ ⟨Or.inl rfl, Nat.le_refl _, Nat.le_refl _⟩
  · have c : ¬ x < 0 := c
    rw [x_lt, x_i0] at c
    refine x_bi (beq_iff_eq.mpr hL) ?_
    refine And.intro (fun c2 => ?_) (fun c2 => ?_)
    · have c2 : x_i h L 2 ≤ x := c2
      rw [hN, x_le, hn] at c2
      have hb : x_ixb x N = false := by simp only [x_ixb, Bool.and_eq_false_iff, decide_eq_false_iff_not]; omega
      exact And.intro ⟨by rw [hb]; rfl, rfl⟩ ⟨Or.inl rfl, Nat.le_refl _, Nat.le_refl _⟩
    · have c2 : ¬ x_i h L 2 ≤ x := c2
      rw [hN, x_le, hn] at c2
      have hb : x_ixb x N = true := by simp only [x_ixb, Bool.and_eq_true, decide_eq_true_eq]; omega
      exact And.intro ⟨by rw [hb]; rfl, rfl⟩ ⟨Or.inr rfl, Nat.le_refl _, Nat.le_refl _⟩
theorem c_hasPurse {L : Nat} {x y : Int32} {K N : Nat} (hL : (x_SH L).1 = 0) (hK : x_i h L 0 = nI K) (hK2 : K ≤ 4) (hN : x_i h L 2 = nI N) (hN2 : N ≤ 5) : x_V 6 (d + 1) [.ref L, .int x, .int y] h (.int (x_bo (x_ixb x N && x_ixb y K))) h := by
  have hs1 : x_stk 5 [.int x, .ref L] = true := by show ((x_SH L).1 == 0) = true; rw [hL]; rfl
  have hs2 : x_stk 3 [.int y, .ref L] = true := by show ((x_SH L).1 == 0) = true; rw [hL]; rfl
  refine x_Ct_w (by decide) (Nat.le_of_ble_eq_true rfl) ok6 [] 5 ?_
  refine Exists.intro _ (And.intro (c_hasPerson hL hN hN2) (And.intro (x_bi hs1 (And.intro (Nat.zero_le _) (Nat.zero_le _))) (fun q h' hp => ?_)))
  obtain ⟨rfl, rfl⟩ := hp
  cases hb : x_ixb x N with
  | false => exact And.intro (fun _ => And.intro ⟨rfl, rfl⟩ ⟨Or.inl rfl, Nat.le_refl _, Nat.le_refl _⟩) (fun c => absurd rfl c)
  | true =>
    refine And.intro (fun c => absurd c (by decide)) (fun _ => ?_)
    refine Exists.intro _ (And.intro (c_hasKind hL hK hK2) (And.intro (x_bi hs2 (And.intro (Nat.zero_le _) (Nat.zero_le _))) (fun q h' hp => ?_)))
    obtain ⟨rfl, rfl⟩ := hp
    cases hb2 : x_ixb y K with
    | false => exact And.intro (fun _ => And.intro ⟨rfl, rfl⟩ ⟨Or.inl rfl, Nat.le_refl _, Nat.le_refl _⟩) (fun c => absurd rfl c)
    | true => exact And.intro (fun c => absurd c (by decide)) (fun _ => And.intro ⟨rfl, rfl⟩ ⟨Or.inr rfl, Nat.le_refl _, Nat.le_refl _⟩)
theorem c_purse {x y : Int32} : x_V 7 d [.int x, .int y] h (.int (x * 4 + y)) h :=
  x_Ct_w (by decide) (Nat.le_of_ble_eq_true rfl) ok7 [] 2 (And.intro ⟨rfl, rfl⟩ ⟨trivial, Nat.le_refl _, Nat.le_refl _⟩)
theorem c_chest {x y : Int32} : x_V 8 d [.int x, .int y] h (.int (x * 5 + y)) h :=
  x_Ct_w (by decide) (Nat.le_of_ble_eq_true rfl) ok8 [] 2 (And.intro ⟨rfl, rfl⟩ ⟨trivial, Nat.le_refl _, Nat.le_refl _⟩)
/-! the model: answers, what there is -/
theorem m_is {w : Int32} : x_V 179 d [.ref 500, .int w] (f, g, ρ, dm, n) (.int (if w = 0 then 1 else 0)) (x_up f 500 2 w, g, ρ, dm, n) := by
  refine x_Ct_w (by decide) (Nat.le_of_ble_eq_true rfl) ok179 [] 4 ?_
  refine And.intro (fun c => ?_) (fun c => ?_)
  · have c : ¬ w = 0 := c
    exact And.intro ⟨by rw [if_neg c]; rfl, rfl⟩ ⟨Or.inl rfl, Nat.le_refl _, Nat.le_refl _⟩
  · have c : w = 0 := c
    exact And.intro ⟨by rw [if_pos c]; rfl, rfl⟩ ⟨Or.inr rfl, Nat.le_refl _, Nat.le_refl _⟩
theorem m_refuse {w : Int32} : x_V 180 d [.ref 500, .int w] (f, g, ρ, dm, n) (.int (-1)) (x_up f 500 2 w, g, ρ, dm, n) :=
  x_Ct_w (by decide) (Nat.le_of_ble_eq_true rfl) ok180 [] 2 (And.intro ⟨rfl, rfl⟩ ⟨trivial, Nat.le_refl _, Nat.le_refl _⟩)
theorem m_gives {v : Int32} : x_V 181 d [.ref 500, .int v] (f, g, ρ, dm, n) (.int v) (x_up f 500 2 0, g, ρ, dm, n) :=
  x_Ct_w (by decide) (Nat.le_of_ble_eq_true rfl) ok181 [] 2 (And.intro ⟨rfl, rfl⟩ ⟨trivial, Nat.le_refl _, Nat.le_refl _⟩)
end C16
