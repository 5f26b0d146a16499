/-! the model's bytes -/
def y_ba (a : Nat → Int32) (m k : Nat) : Int32 := if k < m then a k &&& 255 else -1
section C72
variable {f : Nat → Nat → Int32} {g : Nat → Nat → Int64} {r t : Nat} {dm : List Nat} {n d N : Nat} {v : xV} {h : xH}
theorem m_byteAt {k m : Nat} (hm : f 500 11 = nI m) (hm9 : m ≤ 900) (hk : k < 2 ^ 30) : x_V 194 d [.ref 500, .int (nI k)] (f, g, x_HR r t, dm, n) (.int (y_ba (f 507) m k)) (f, g, x_HR r t, dm, n) := by
  unfold y_ba
  refine x_Ct_w (by decide) (Nat.le_of_ble_eq_true rfl) ok194 [] 6 ?_
  refine And.intro (fun c => ?_) (fun c => ?_)
  · have c : f 500 11 ≤ nI k := c
    rw [hm, nI_leI (by omega) (by omega)] at c
    rw [if_neg (by omega)]
    exact And.intro ⟨rfl, rfl⟩ ⟨trivial, Nat.le_refl _, Nat.le_refl _⟩
  · have c : ¬ f 500 11 ≤ nI k := c
    rw [hm, nI_leI (by omega) (by omega)] at c
    rw [if_pos (by omega)]
    refine And.intro (x_ix_nI (by omega) (by omega)) ?_
    rw [nI_clamp (by omega)]
    exact And.intro ⟨rfl, rfl⟩ ⟨trivial, Nat.le_refl _, Nat.le_refl _⟩
theorem m_isSmall {x : Int32} : x_V 195 d [.int x] h (.int (x_bo (decide (¬ x < 97 ∧ ¬ 122 < x)))) h := by
  refine x_Ct_w (by decide) (Nat.le_of_ble_eq_true rfl) ok195 [] 6 ?_
  refine And.intro (fun c => ?_) (fun c => ?_)
  · have c : x < 97 := c
    rw [decide_eq_false (fun q => q.1 c)]
    exact And.intro ⟨rfl, rfl⟩ ⟨Or.inl rfl, Nat.le_refl _, Nat.le_refl _⟩
  · refine And.intro (fun c2 => ?_) (fun c2 => ?_)
    · have c2 : 122 < x := c2
      rw [decide_eq_false (fun q => q.2 c2)]
      exact And.intro ⟨rfl, rfl⟩ ⟨Or.inl rfl, Nat.le_refl _, Nat.le_refl _⟩
    · have c : ¬ x < 97 := c
      have c2 : ¬ 122 < x := c2
      rw [decide_eq_true ⟨c, c2⟩]
      exact And.intro ⟨rfl, rfl⟩ ⟨Or.inr rfl, Nat.le_refl _, Nat.le_refl _⟩
theorem m_isDigit {x : Int32} : x_V 196 d [.int x] h (.int (x_bo (decide (¬ x < 48 ∧ ¬ 57 < x)))) h := by
  refine x_Ct_w (by decide) (Nat.le_of_ble_eq_true rfl) ok196 [] 6 ?_
  refine And.intro (fun c => ?_) (fun c => ?_)
  · have c : x < 48 := c
    rw [decide_eq_false (fun q => q.1 c)]
    exact And.intro ⟨rfl, rfl⟩ ⟨Or.inl rfl, Nat.le_refl _, Nat.le_refl _⟩
  · refine And.intro (fun c2 => ?_) (fun c2 => ?_)
    · have c2 : 57 < x := c2
      rw [decide_eq_false (fun q => q.2 c2)]
      exact And.intro ⟨rfl, rfl⟩ ⟨Or.inl rfl, Nat.le_refl _, Nat.le_refl _⟩
    · have c : ¬ x < 48 := c
      have c2 : ¬ 57 < x := c2
      rw [decide_eq_true ⟨c, c2⟩]
      exact And.intro ⟨rfl, rfl⟩ ⟨Or.inr rfl, Nat.le_refl _, Nat.le_refl _⟩
end C72
