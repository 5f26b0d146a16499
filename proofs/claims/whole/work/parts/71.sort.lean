/-! the sort of a byte of the tape: 1 a letter, 2 a digit, 3 none left, 5 a blank, 4 what may not be; a sign is itself -/
def y_sb (x : Int32) : Int32 := if ¬ x < 97 ∧ ¬ 122 < x then 1 else if ¬ x < 48 ∧ ¬ 57 < x then 2 else if x = 59 ∨ x = 60 ∨ x = 62 ∨ x = 61 then x else if x = 10 ∨ x = 32 then 5 else 4
def y_sa (a : Nat → Int32) (m k : Nat) : Int32 := if k < m then y_sb (a k) else 3
section C71
variable {f : Nat → Nat → Int32} {g : Nat → Nat → Int64} {r t : Nat} {dm : List Nat} {n d N : Nat} {v : xV}
theorem c_sortAt {k m : Nat} (hm : f 10 1 = nI m) (hm9 : m ≤ 900) (hk : k ≤ 900) : x_V 81 d [.ref 10, .int (nI k)] (f, g, x_HR r t, dm, n) (.int (y_sa (f 11) m k)) (f, g, x_HR r t, dm, n) := by
  unfold y_sa
  refine x_Ct_w (by decide) (Nat.le_of_ble_eq_true rfl) ok81 [21] 6 ?_
  refine And.intro (fun c => absurd (show nI k < 0 from c) (nI_pos (by omega))) (fun _ => ?_)
  refine And.intro (fun c => ?_) (fun c => ?_)
  · have c : nI k < f 10 1 := c
    rw [hm, nI_ltI (by omega) (by omega)] at c
    rw [if_pos c]
    refine And.intro (x_ix_nI (by omega) (by omega)) ?_
    rw [nI_clamp (by omega)]
    show x_J 81 d (fun q h' => q = some (.int (y_sb (f 11 k))) ∧ h' = (f, g, x_HR r t, dm, n)) 21 [some (.ref 10), some (.int (nI k)), some (.int (f 11 k))] [] (f, g, x_HR r t, dm, n) 0 0
    obtain ⟨x, hx⟩ : ∃ x, x = f 11 k := ⟨_, rfl⟩
    rw [← hx]
    have low : ¬ (¬ x < 97 ∧ ¬ 122 < x) → x_J 81 d (fun q h' => q = some (.int (y_sb x)) ∧ h' = (f, g, x_HR r t, dm, n)) 35 [some (.ref 10), some (.int (nI k)), some (.int x)] [] (f, g, x_HR r t, dm, n) 0 0 := by
      intro q1
      have sig : ¬ (¬ x < 48 ∧ ¬ 57 < x) → x_J 81 d (fun q h' => q = some (.int (y_sb x)) ∧ h' = (f, g, x_HR r t, dm, n)) 49 [some (.ref 10), some (.int (nI k)), some (.int x)] [] (f, g, x_HR r t, dm, n) 0 0 := by
        intro q2
        have e0 : y_sb x = if x = 59 ∨ x = 60 ∨ x = 62 ∨ x = 61 then x else if x = 10 ∨ x = 32 then 5 else 4 := (if_neg q1).trans (if_neg q2)
        refine x_wp_ok ok81 [] 8 ?_
        refine And.intro (fun c1 => ?_) (fun c1 => ?_)
        · have e : y_sb x = x := e0.trans (if_pos (Or.inl c1))
          rw [e]
          exact And.intro ⟨rfl, rfl⟩ ⟨trivial, Nat.le_refl _, Nat.le_refl _⟩
        · refine And.intro (fun c2 => ?_) (fun c2 => ?_)
          · have e : y_sb x = x := e0.trans (if_pos (Or.inr (Or.inl c2)))
            rw [e]
            exact And.intro ⟨rfl, rfl⟩ ⟨trivial, Nat.le_refl _, Nat.le_refl _⟩
          · refine And.intro (fun c3 => ?_) (fun c3 => ?_)
            · have e : y_sb x = x := e0.trans (if_pos (Or.inr (Or.inr (Or.inl c3))))
              rw [e]
              exact And.intro ⟨rfl, rfl⟩ ⟨trivial, Nat.le_refl _, Nat.le_refl _⟩
            · refine And.intro (fun c4 => ?_) (fun c4 => ?_)
              · have c1 : ¬ x = 59 := c1
                have c2 : ¬ x = 60 := c2
                have c3 : ¬ x = 62 := c3
                have c4 : ¬ x = 61 := c4
                have e1 : y_sb x = if x = 10 ∨ x = 32 then 5 else 4 := e0.trans (if_neg (fun q => q.elim c1 (fun q => q.elim c2 (fun q => q.elim c3 c4))))
                refine And.intro (fun c5 => ?_) (fun c5 => ?_)
                · have e : y_sb x = 5 := e1.trans (if_pos (Or.inl c5))
                  rw [e]
                  exact And.intro ⟨rfl, rfl⟩ ⟨trivial, Nat.le_refl _, Nat.le_refl _⟩
                · refine And.intro (fun c6 => ?_) (fun c6 => ?_)
                  · have c5 : ¬ x = 10 := c5
                    have c6 : ¬ x = 32 := c6
                    have e : y_sb x = 4 := e1.trans (if_neg (fun q => q.elim c5 c6))
                    rw [e]
                    exact And.intro ⟨rfl, rfl⟩ ⟨trivial, Nat.le_refl _, Nat.le_refl _⟩
                  · have e : y_sb x = 5 := e1.trans (if_pos (Or.inr c6))
                    rw [e]
                    exact And.intro ⟨rfl, rfl⟩ ⟨trivial, Nat.le_refl _, Nat.le_refl _⟩
              · have e : y_sb x = x := e0.trans (if_pos (Or.inr (Or.inr (Or.inr c4))))
                rw [e]
                exact And.intro ⟨rfl, rfl⟩ ⟨trivial, Nat.le_refl _, Nat.le_refl _⟩
      refine x_wp_ok ok81 [49] 8 ?_
      refine And.intro (fun c1 => ?_) (fun c1 => ?_)
      · have c1 : x < 48 := c1
        exact sig (fun q => q.1 c1)
      · refine And.intro (fun c2 => ?_) (fun c2 => ?_)
        · have c2 : 57 < x := c2
          exact sig (fun q => q.2 c2)
        · have e : y_sb x = 2 := (if_neg q1).trans (if_pos ⟨c1, c2⟩)
          rw [e]
          exact And.intro ⟨rfl, rfl⟩ ⟨trivial, Nat.le_refl _, Nat.le_refl _⟩
    refine x_wp_ok ok81 [35] 8 ?_
    refine And.intro (fun c1 => ?_) (fun c1 => ?_)
    · have c1 : x < 97 := c1
      exact low (fun q => q.1 c1)
    · refine And.intro (fun c2 => ?_) (fun c2 => ?_)
      · have c2 : 122 < x := c2
        exact low (fun q => q.2 c2)
      · have e : y_sb x = 1 := if_pos ⟨c1, c2⟩
        rw [e]
        exact And.intro ⟨rfl, rfl⟩ ⟨trivial, Nat.le_refl _, Nat.le_refl _⟩
  · have c : ¬ nI k < f 10 1 := c
    rw [hm, nI_ltI (by omega) (by omega)] at c
    rw [if_neg c]
    exact And.intro ⟨rfl, rfl⟩ ⟨trivial, Nat.le_refl _, Nat.le_refl _⟩
end C71
