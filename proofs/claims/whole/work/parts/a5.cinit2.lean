/-! the other constructors of the class's parts -/
section Ca5
variable {f : Nat → Nat → Int32} {g : Nat → Nat → Int64} {R0 R1 R2 R3 : Nat → Option Nat} {dm : List Nat} {n d : Nat}
theorem c_initReigns_32 (n1 : 33 ∉ dm) (n2 : 34 ∉ dm) (n3 : 35 ∉ dm) (n4 : 36 ∉ dm) (n5 : 37 ∉ dm) (n6 : 38 ∉ dm) : x_Ct 56 (d + 1) [.ref 32] (f, g, va_up (x_HB4 R0 R1 R2 R3) 32 (fun _ => none), dm, 33) (fun z h' => z = none ∧ ∃ F G, h' = (F, G, x_HB4 R0 R1 R2 R3, dm ++ [33] ++ [34] ++ [35] ++ [36] ++ [37] ++ [38], 39) ∧ ∀ c, c ≤ 32 ∨ 38 < c → F c = f c ∧ G c = g c) := by
  obtain ⟨Po, hPo⟩ : ∃ Po : Option Value → xH → Prop, Po = (fun z h' => z = none ∧ ∃ F G, h' = (F, G, x_HB4 R0 R1 R2 R3, dm ++ [33] ++ [34] ++ [35] ++ [36] ++ [37] ++ [38], 39) ∧ ∀ c, c ≤ 32 ∨ 38 < c → F c = f c ∧ G c = g c) := ⟨_, rfl⟩
  rw [← hPo]
  have hrow : (va_up (va_up (va_up (va_up (va_up (va_up (fun _ => none) 3 (some 33)) 4 (some 34)) 5 (some 35)) 6 (some 36)) 7 (some 37)) 8 (some 38)) = x_HB4 R0 R1 R2 R3 32 := by
    funext b
    show _ = if 3 ≤ b ∧ b ≤ 8 then some (32 + (b - 2)) else none
    by_cases b8 : b = 8
    · subst b8
      rfl
    rw [x_un b8]
    by_cases b7 : b = 7
    · subst b7
      rfl
    rw [x_un b7]
    by_cases b6 : b = 6
    · subst b6
      rfl
    rw [x_un b6]
    by_cases b5 : b = 5
    · subst b5
      rfl
    rw [x_un b5]
    by_cases b4 : b = 4
    · subst b4
      rfl
    rw [x_un b4]
    by_cases b3 : b = 3
    · subst b3
      rfl
    rw [x_un b3]
    rw [if_neg (by omega)]
  have s6 : ∀ F G, (∀ c, c ≤ 32 ∨ 38 < c → F c = f c ∧ G c = g c) → x_J 56 (d + 1) Po 52 [some (.ref 32)] [] (F, G, va_up (x_HB4 R0 R1 R2 R3) 32 (va_up (va_up (va_up (va_up (va_up (va_up (fun _ => none) 3 (some 33)) 4 (some 34)) 5 (some 35)) 6 (some 36)) 7 (some 37)) 8 (some 38)), dm ++ [33] ++ [34] ++ [35] ++ [36] ++ [37] ++ [38], 39) 6 360 := by
    intro F G hf
    rw [x_row_f hrow]
    refine x_wp_ok ok56 [] 6 ?_
    refine And.intro ?_ ⟨trivial, Nat.le_of_ble_eq_true rfl, Nat.le_of_ble_eq_true rfl⟩
    rw [hPo]
    exact ⟨rfl, F, G, rfl, hf⟩
  have s5 : ∀ F G, (∀ c, c ≤ 32 ∨ 38 < c → F c = f c ∧ G c = g c) → x_J 56 (d + 1) Po 44 [some (.ref 32)] [] (F, G, va_up (x_HB4 R0 R1 R2 R3) 32 (va_up (va_up (va_up (va_up (va_up (fun _ => none) 3 (some 33)) 4 (some 34)) 5 (some 35)) 6 (some 36)) 7 (some 37)), dm ++ [33] ++ [34] ++ [35] ++ [36] ++ [37], 38) 5 300 := by
    intro F G hf
    refine x_wp_ok ok56 [52] 6 ?_
    refine And.intro ⟨by decide, rfl, (x_nin (x_nin (x_nin (x_nin (x_nin n6 (show (38 : Nat) ≠ 33 by decide)) (show (38 : Nat) ≠ 34 by decide)) (show (38 : Nat) ≠ 35 by decide)) (show (38 : Nat) ≠ 36 by decide)) (show (38 : Nat) ≠ 37 by decide)), show (38 : Nat) < 1000 by decide, by decide⟩ ?_
    refine And.intro ⟨Nat.le_of_ble_eq_true rfl, Nat.le_of_ble_eq_true rfl⟩ ?_
    have e := s6 (va_up F 38 (fun _ => 0)) (va_up G 38 (fun _ => 0)) (fun c hc => ⟨by rw [x_un (by omega)]; exact (hf c hc).1, by rw [x_un (by omega)]; exact (hf c hc).2⟩)
    rw [← x_vu_up', ← x_row_a (a := 38) (ρ := x_HB4 R0 R1 R2 R3) (L := 32) (u := (va_up (va_up (va_up (va_up (va_up (fun _ => none) 3 (some 33)) 4 (some 34)) 5 (some 35)) 6 (some 36)) 7 (some 37))) rfl (by decide)] at e
    exact e
  have s4 : ∀ F G, (∀ c, c ≤ 32 ∨ 38 < c → F c = f c ∧ G c = g c) → x_J 56 (d + 1) Po 36 [some (.ref 32)] [] (F, G, va_up (x_HB4 R0 R1 R2 R3) 32 (va_up (va_up (va_up (va_up (fun _ => none) 3 (some 33)) 4 (some 34)) 5 (some 35)) 6 (some 36)), dm ++ [33] ++ [34] ++ [35] ++ [36], 37) 4 240 := by
    intro F G hf
    refine x_wp_ok ok56 [44] 6 ?_
    refine And.intro ⟨by decide, rfl, (x_nin (x_nin (x_nin (x_nin n5 (show (37 : Nat) ≠ 33 by decide)) (show (37 : Nat) ≠ 34 by decide)) (show (37 : Nat) ≠ 35 by decide)) (show (37 : Nat) ≠ 36 by decide)), show (37 : Nat) < 1000 by decide, by decide⟩ ?_
    refine And.intro ⟨Nat.le_of_ble_eq_true rfl, Nat.le_of_ble_eq_true rfl⟩ ?_
    have e := s5 (va_up F 37 (fun _ => 0)) (va_up G 37 (fun _ => 0)) (fun c hc => ⟨by rw [x_un (by omega)]; exact (hf c hc).1, by rw [x_un (by omega)]; exact (hf c hc).2⟩)
    rw [← x_vu_up', ← x_row_a (a := 37) (ρ := x_HB4 R0 R1 R2 R3) (L := 32) (u := (va_up (va_up (va_up (va_up (fun _ => none) 3 (some 33)) 4 (some 34)) 5 (some 35)) 6 (some 36))) rfl (by decide)] at e
    exact e
  have s3 : ∀ F G, (∀ c, c ≤ 32 ∨ 38 < c → F c = f c ∧ G c = g c) → x_J 56 (d + 1) Po 28 [some (.ref 32)] [] (F, G, va_up (x_HB4 R0 R1 R2 R3) 32 (va_up (va_up (va_up (fun _ => none) 3 (some 33)) 4 (some 34)) 5 (some 35)), dm ++ [33] ++ [34] ++ [35], 36) 3 180 := by
    intro F G hf
    refine x_wp_ok ok56 [36] 6 ?_
    refine And.intro ⟨by decide, rfl, (x_nin (x_nin (x_nin n4 (show (36 : Nat) ≠ 33 by decide)) (show (36 : Nat) ≠ 34 by decide)) (show (36 : Nat) ≠ 35 by decide)), show (36 : Nat) < 1000 by decide, by decide⟩ ?_
    refine And.intro ⟨Nat.le_of_ble_eq_true rfl, Nat.le_of_ble_eq_true rfl⟩ ?_
    have e := s4 (va_up F 36 (fun _ => 0)) (va_up G 36 (fun _ => 0)) (fun c hc => ⟨by rw [x_un (by omega)]; exact (hf c hc).1, by rw [x_un (by omega)]; exact (hf c hc).2⟩)
    rw [← x_vu_up', ← x_row_a (a := 36) (ρ := x_HB4 R0 R1 R2 R3) (L := 32) (u := (va_up (va_up (va_up (fun _ => none) 3 (some 33)) 4 (some 34)) 5 (some 35))) rfl (by decide)] at e
    exact e
  have s2 : ∀ F G, (∀ c, c ≤ 32 ∨ 38 < c → F c = f c ∧ G c = g c) → x_J 56 (d + 1) Po 20 [some (.ref 32)] [] (F, G, va_up (x_HB4 R0 R1 R2 R3) 32 (va_up (va_up (fun _ => none) 3 (some 33)) 4 (some 34)), dm ++ [33] ++ [34], 35) 2 120 := by
    intro F G hf
    refine x_wp_ok ok56 [28] 6 ?_
    refine And.intro ⟨by decide, rfl, (x_nin (x_nin n3 (show (35 : Nat) ≠ 33 by decide)) (show (35 : Nat) ≠ 34 by decide)), show (35 : Nat) < 1000 by decide, by decide⟩ ?_
    refine And.intro ⟨Nat.le_of_ble_eq_true rfl, Nat.le_of_ble_eq_true rfl⟩ ?_
    have e := s3 (va_up F 35 (fun _ => 0)) (va_up G 35 (fun _ => 0)) (fun c hc => ⟨by rw [x_un (by omega)]; exact (hf c hc).1, by rw [x_un (by omega)]; exact (hf c hc).2⟩)
    rw [← x_vu_up', ← x_row_a (a := 35) (ρ := x_HB4 R0 R1 R2 R3) (L := 32) (u := (va_up (va_up (fun _ => none) 3 (some 33)) 4 (some 34))) rfl (by decide)] at e
    exact e
  have s1 : ∀ F G, (∀ c, c ≤ 32 ∨ 38 < c → F c = f c ∧ G c = g c) → x_J 56 (d + 1) Po 12 [some (.ref 32)] [] (F, G, va_up (x_HB4 R0 R1 R2 R3) 32 (va_up (fun _ => none) 3 (some 33)), dm ++ [33], 34) 1 60 := by
    intro F G hf
    refine x_wp_ok ok56 [20] 6 ?_
    refine And.intro ⟨by decide, rfl, (x_nin n2 (show (34 : Nat) ≠ 33 by decide)), show (34 : Nat) < 1000 by decide, by decide⟩ ?_
    refine And.intro ⟨Nat.le_of_ble_eq_true rfl, Nat.le_of_ble_eq_true rfl⟩ ?_
    have e := s2 (va_up F 34 (fun _ => 0)) (va_up G 34 (fun _ => 0)) (fun c hc => ⟨by rw [x_un (by omega)]; exact (hf c hc).1, by rw [x_un (by omega)]; exact (hf c hc).2⟩)
    rw [← x_vu_up', ← x_row_a (a := 34) (ρ := x_HB4 R0 R1 R2 R3) (L := 32) (u := (va_up (fun _ => none) 3 (some 33))) rfl (by decide)] at e
    exact e
  have s0 : ∀ F G, (∀ c, c ≤ 32 ∨ 38 < c → F c = f c ∧ G c = g c) → x_J 56 (d + 1) Po 4 [some (.ref 32)] [] (F, G, va_up (x_HB4 R0 R1 R2 R3) 32 (fun _ => none), dm, 33) 0 0 := by
    intro F G hf
    refine x_wp_ok ok56 [12] 6 ?_
    refine And.intro ⟨by decide, rfl, n1, show (33 : Nat) < 1000 by decide, by decide⟩ ?_
    refine And.intro ⟨Nat.le_of_ble_eq_true rfl, Nat.le_of_ble_eq_true rfl⟩ ?_
    have e := s1 (va_up F 33 (fun _ => 0)) (va_up G 33 (fun _ => 0)) (fun c hc => ⟨by rw [x_un (by omega)]; exact (hf c hc).1, by rw [x_un (by omega)]; exact (hf c hc).2⟩)
    rw [← x_vu_up', ← x_row_a (a := 33) (ρ := x_HB4 R0 R1 R2 R3) (L := 32) (u := (fun _ => none)) rfl (by decide)] at e
    exact e
  refine x_Ct_w (by decide) (Nat.le_of_ble_eq_true rfl) ok56 [4] 6 ?_
  exact s0 f g (fun c _ => ⟨rfl, rfl⟩)
theorem c_initReigns_39 (n1 : 40 ∉ dm) (n2 : 41 ∉ dm) (n3 : 42 ∉ dm) (n4 : 43 ∉ dm) (n5 : 44 ∉ dm) (n6 : 45 ∉ dm) : x_Ct 56 (d + 1) [.ref 39] (f, g, va_up (x_HB4 R0 R1 R2 R3) 39 (fun _ => none), dm, 40) (fun z h' => z = none ∧ ∃ F G, h' = (F, G, x_HB4 R0 R1 R2 R3, dm ++ [40] ++ [41] ++ [42] ++ [43] ++ [44] ++ [45], 46) ∧ ∀ c, c ≤ 39 ∨ 45 < c → F c = f c ∧ G c = g c) := by
  obtain ⟨Po, hPo⟩ : ∃ Po : Option Value → xH → Prop, Po = (fun z h' => z = none ∧ ∃ F G, h' = (F, G, x_HB4 R0 R1 R2 R3, dm ++ [40] ++ [41] ++ [42] ++ [43] ++ [44] ++ [45], 46) ∧ ∀ c, c ≤ 39 ∨ 45 < c → F c = f c ∧ G c = g c) := ⟨_, rfl⟩
  rw [← hPo]
  have hrow : (va_up (va_up (va_up (va_up (va_up (va_up (fun _ => none) 3 (some 40)) 4 (some 41)) 5 (some 42)) 6 (some 43)) 7 (some 44)) 8 (some 45)) = x_HB4 R0 R1 R2 R3 39 := by
    funext b
    show _ = if 3 ≤ b ∧ b ≤ 8 then some (39 + (b - 2)) else none
    by_cases b8 : b = 8
    · subst b8
      rfl
    rw [x_un b8]
    by_cases b7 : b = 7
    · subst b7
      rfl
    rw [x_un b7]
    by_cases b6 : b = 6
    · subst b6
      rfl
    rw [x_un b6]
    by_cases b5 : b = 5
    · subst b5
      rfl
    rw [x_un b5]
    by_cases b4 : b = 4
    · subst b4
      rfl
    rw [x_un b4]
    by_cases b3 : b = 3
    · subst b3
      rfl
    rw [x_un b3]
    rw [if_neg (by omega)]
  have s6 : ∀ F G, (∀ c, c ≤ 39 ∨ 45 < c → F c = f c ∧ G c = g c) → x_J 56 (d + 1) Po 52 [some (.ref 39)] [] (F, G, va_up (x_HB4 R0 R1 R2 R3) 39 (va_up (va_up (va_up (va_up (va_up (va_up (fun _ => none) 3 (some 40)) 4 (some 41)) 5 (some 42)) 6 (some 43)) 7 (some 44)) 8 (some 45)), dm ++ [40] ++ [41] ++ [42] ++ [43] ++ [44] ++ [45], 46) 6 360 := by
    intro F G hf
    rw [x_row_f hrow]
    refine x_wp_ok ok56 [] 6 ?_
    refine And.intro ?_ ⟨trivial, Nat.le_of_ble_eq_true rfl, Nat.le_of_ble_eq_true rfl⟩
    rw [hPo]
    exact ⟨rfl, F, G, rfl, hf⟩
  have s5 : ∀ F G, (∀ c, c ≤ 39 ∨ 45 < c → F c = f c ∧ G c = g c) → x_J 56 (d + 1) Po 44 [some (.ref 39)] [] (F, G, va_up (x_HB4 R0 R1 R2 R3) 39 (va_up (va_up (va_up (va_up (va_up (fun _ => none) 3 (some 40)) 4 (some 41)) 5 (some 42)) 6 (some 43)) 7 (some 44)), dm ++ [40] ++ [41] ++ [42] ++ [43] ++ [44], 45) 5 300 := by
    intro F G hf
    refine x_wp_ok ok56 [52] 6 ?_
    refine And.intro ⟨by decide, rfl, (x_nin (x_nin (x_nin (x_nin (x_nin n6 (show (45 : Nat) ≠ 40 by decide)) (show (45 : Nat) ≠ 41 by decide)) (show (45 : Nat) ≠ 42 by decide)) (show (45 : Nat) ≠ 43 by decide)) (show (45 : Nat) ≠ 44 by decide)), show (45 : Nat) < 1000 by decide, by decide⟩ ?_
    refine And.intro ⟨Nat.le_of_ble_eq_true rfl, Nat.le_of_ble_eq_true rfl⟩ ?_
    have e := s6 (va_up F 45 (fun _ => 0)) (va_up G 45 (fun _ => 0)) (fun c hc => ⟨by rw [x_un (by omega)]; exact (hf c hc).1, by rw [x_un (by omega)]; exact (hf c hc).2⟩)
    rw [← x_vu_up', ← x_row_a (a := 45) (ρ := x_HB4 R0 R1 R2 R3) (L := 39) (u := (va_up (va_up (va_up (va_up (va_up (fun _ => none) 3 (some 40)) 4 (some 41)) 5 (some 42)) 6 (some 43)) 7 (some 44))) rfl (by decide)] at e
    exact e
  have s4 : ∀ F G, (∀ c, c ≤ 39 ∨ 45 < c → F c = f c ∧ G c = g c) → x_J 56 (d + 1) Po 36 [some (.ref 39)] [] (F, G, va_up (x_HB4 R0 R1 R2 R3) 39 (va_up (va_up (va_up (va_up (fun _ => none) 3 (some 40)) 4 (some 41)) 5 (some 42)) 6 (some 43)), dm ++ [40] ++ [41] ++ [42] ++ [43], 44) 4 240 := by
    intro F G hf
    refine x_wp_ok ok56 [44] 6 ?_
    refine And.intro ⟨by decide, rfl, (x_nin (x_nin (x_nin (x_nin n5 (show (44 : Nat) ≠ 40 by decide)) (show (44 : Nat) ≠ 41 by decide)) (show (44 : Nat) ≠ 42 by decide)) (show (44 : Nat) ≠ 43 by decide)), show (44 : Nat) < 1000 by decide, by decide⟩ ?_
    refine And.intro ⟨Nat.le_of_ble_eq_true rfl, Nat.le_of_ble_eq_true rfl⟩ ?_
    have e := s5 (va_up F 44 (fun _ => 0)) (va_up G 44 (fun _ => 0)) (fun c hc => ⟨by rw [x_un (by omega)]; exact (hf c hc).1, by rw [x_un (by omega)]; exact (hf c hc).2⟩)
    rw [← x_vu_up', ← x_row_a (a := 44) (ρ := x_HB4 R0 R1 R2 R3) (L := 39) (u := (va_up (va_up (va_up (va_up (fun _ => none) 3 (some 40)) 4 (some 41)) 5 (some 42)) 6 (some 43))) rfl (by decide)] at e
    exact e
  have s3 : ∀ F G, (∀ c, c ≤ 39 ∨ 45 < c → F c = f c ∧ G c = g c) → x_J 56 (d + 1) Po 28 [some (.ref 39)] [] (F, G, va_up (x_HB4 R0 R1 R2 R3) 39 (va_up (va_up (va_up (fun _ => none) 3 (some 40)) 4 (some 41)) 5 (some 42)), dm ++ [40] ++ [41] ++ [42], 43) 3 180 := by
    intro F G hf
    refine x_wp_ok ok56 [36] 6 ?_
    refine And.intro ⟨by decide, rfl, (x_nin (x_nin (x_nin n4 (show (43 : Nat) ≠ 40 by decide)) (show (43 : Nat) ≠ 41 by decide)) (show (43 : Nat) ≠ 42 by decide)), show (43 : Nat) < 1000 by decide, by decide⟩ ?_
    refine And.intro ⟨Nat.le_of_ble_eq_true rfl, Nat.le_of_ble_eq_true rfl⟩ ?_
    have e := s4 (va_up F 43 (fun _ => 0)) (va_up G 43 (fun _ => 0)) (fun c hc => ⟨by rw [x_un (by omega)]; exact (hf c hc).1, by rw [x_un (by omega)]; exact (hf c hc).2⟩)
    rw [← x_vu_up', ← x_row_a (a := 43) (ρ := x_HB4 R0 R1 R2 R3) (L := 39) (u := (va_up (va_up (va_up (fun _ => none) 3 (some 40)) 4 (some 41)) 5 (some 42))) rfl (by decide)] at e
    exact e
  have s2 : ∀ F G, (∀ c, c ≤ 39 ∨ 45 < c → F c = f c ∧ G c = g c) → x_J 56 (d + 1) Po 20 [some (.ref 39)] [] (F, G, va_up (x_HB4 R0 R1 R2 R3) 39 (va_up (va_up (fun _ => none) 3 (some 40)) 4 (some 41)), dm ++ [40] ++ [41], 42) 2 120 := by
    intro F G hf
    refine x_wp_ok ok56 [28] 6 ?_
    refine And.intro ⟨by decide, rfl, (x_nin (x_nin n3 (show (42 : Nat) ≠ 40 by decide)) (show (42 : Nat) ≠ 41 by decide)), show (42 : Nat) < 1000 by decide, by decide⟩ ?_
    refine And.intro ⟨Nat.le_of_ble_eq_true rfl, Nat.le_of_ble_eq_true rfl⟩ ?_
    have e := s3 (va_up F 42 (fun _ => 0)) (va_up G 42 (fun _ => 0)) (fun c hc => ⟨by rw [x_un (by omega)]; exact (hf c hc).1, by rw [x_un (by omega)]; exact (hf c hc).2⟩)
    rw [← x_vu_up', ← x_row_a (a := 42) (ρ := x_HB4 R0 R1 R2 R3) (L := 39) (u := (va_up (va_up (fun _ => none) 3 (some 40)) 4 (some 41))) rfl (by decide)] at e
    exact e
  have s1 : ∀ F G, (∀ c, c ≤ 39 ∨ 45 < c → F c = f c ∧ G c = g c) → x_J 56 (d + 1) Po 12 [some (.ref 39)] [] (F, G, va_up (x_HB4 R0 R1 R2 R3) 39 (va_up (fun _ => none) 3 (some 40)), dm ++ [40], 41) 1 60 := by
    intro F G hf
    refine x_wp_ok ok56 [20] 6 ?_
    refine And.intro ⟨by decide, rfl, (x_nin n2 (show (41 : Nat) ≠ 40 by decide)), show (41 : Nat) < 1000 by decide, by decide⟩ ?_
    refine And.intro ⟨Nat.le_of_ble_eq_true rfl, Nat.le_of_ble_eq_true rfl⟩ ?_
    have e := s2 (va_up F 41 (fun _ => 0)) (va_up G 41 (fun _ => 0)) (fun c hc => ⟨by rw [x_un (by omega)]; exact (hf c hc).1, by rw [x_un (by omega)]; exact (hf c hc).2⟩)
    rw [← x_vu_up', ← x_row_a (a := 41) (ρ := x_HB4 R0 R1 R2 R3) (L := 39) (u := (va_up (fun _ => none) 3 (some 40))) rfl (by decide)] at e
    exact e
  have s0 : ∀ F G, (∀ c, c ≤ 39 ∨ 45 < c → F c = f c ∧ G c = g c) → x_J 56 (d + 1) Po 4 [some (.ref 39)] [] (F, G, va_up (x_HB4 R0 R1 R2 R3) 39 (fun _ => none), dm, 40) 0 0 := by
    intro F G hf
    refine x_wp_ok ok56 [12] 6 ?_
    refine And.intro ⟨by decide, rfl, n1, show (40 : Nat) < 1000 by decide, by decide⟩ ?_
    refine And.intro ⟨Nat.le_of_ble_eq_true rfl, Nat.le_of_ble_eq_true rfl⟩ ?_
    have e := s1 (va_up F 40 (fun _ => 0)) (va_up G 40 (fun _ => 0)) (fun c hc => ⟨by rw [x_un (by omega)]; exact (hf c hc).1, by rw [x_un (by omega)]; exact (hf c hc).2⟩)
    rw [← x_vu_up', ← x_row_a (a := 40) (ρ := x_HB4 R0 R1 R2 R3) (L := 39) (u := (fun _ => none)) rfl (by decide)] at e
    exact e
  refine x_Ct_w (by decide) (Nat.le_of_ble_eq_true rfl) ok56 [4] 6 ?_
  exact s0 f g (fun c _ => ⟨rfl, rfl⟩)
theorem c_initReigns_58 (n1 : 59 ∉ dm) (n2 : 60 ∉ dm) (n3 : 61 ∉ dm) (n4 : 62 ∉ dm) (n5 : 63 ∉ dm) (n6 : 64 ∉ dm) : x_Ct 56 (d + 1) [.ref 58] (f, g, va_up (x_HB4 R0 R1 R2 R3) 58 (fun _ => none), dm, 59) (fun z h' => z = none ∧ ∃ F G, h' = (F, G, x_HB4 R0 R1 R2 R3, dm ++ [59] ++ [60] ++ [61] ++ [62] ++ [63] ++ [64], 65) ∧ ∀ c, c ≤ 58 ∨ 64 < c → F c = f c ∧ G c = g c) := by
  obtain ⟨Po, hPo⟩ : ∃ Po : Option Value → xH → Prop, Po = (fun z h' => z = none ∧ ∃ F G, h' = (F, G, x_HB4 R0 R1 R2 R3, dm ++ [59] ++ [60] ++ [61] ++ [62] ++ [63] ++ [64], 65) ∧ ∀ c, c ≤ 58 ∨ 64 < c → F c = f c ∧ G c = g c) := ⟨_, rfl⟩
  rw [← hPo]
  have hrow : (va_up (va_up (va_up (va_up (va_up (va_up (fun _ => none) 3 (some 59)) 4 (some 60)) 5 (some 61)) 6 (some 62)) 7 (some 63)) 8 (some 64)) = x_HB4 R0 R1 R2 R3 58 := by
    funext b
    show _ = if 3 ≤ b ∧ b ≤ 8 then some (58 + (b - 2)) else none
    by_cases b8 : b = 8
    · subst b8
      rfl
    rw [x_un b8]
    by_cases b7 : b = 7
    · subst b7
      rfl
    rw [x_un b7]
    by_cases b6 : b = 6
    · subst b6
      rfl
    rw [x_un b6]
    by_cases b5 : b = 5
    · subst b5
      rfl
    rw [x_un b5]
    by_cases b4 : b = 4
    · subst b4
      rfl
    rw [x_un b4]
    by_cases b3 : b = 3
    · subst b3
      rfl
    rw [x_un b3]
    rw [if_neg (by omega)]
  have s6 : ∀ F G, (∀ c, c ≤ 58 ∨ 64 < c → F c = f c ∧ G c = g c) → x_J 56 (d + 1) Po 52 [some (.ref 58)] [] (F, G, va_up (x_HB4 R0 R1 R2 R3) 58 (va_up (va_up (va_up (va_up (va_up (va_up (fun _ => none) 3 (some 59)) 4 (some 60)) 5 (some 61)) 6 (some 62)) 7 (some 63)) 8 (some 64)), dm ++ [59] ++ [60] ++ [61] ++ [62] ++ [63] ++ [64], 65) 6 360 := by
    intro F G hf
    rw [x_row_f hrow]
    refine x_wp_ok ok56 [] 6 ?_
    refine And.intro ?_ ⟨trivial, Nat.le_of_ble_eq_true rfl, Nat.le_of_ble_eq_true rfl⟩
    rw [hPo]
    exact ⟨rfl, F, G, rfl, hf⟩
  have s5 : ∀ F G, (∀ c, c ≤ 58 ∨ 64 < c → F c = f c ∧ G c = g c) → x_J 56 (d + 1) Po 44 [some (.ref 58)] [] (F, G, va_up (x_HB4 R0 R1 R2 R3) 58 (va_up (va_up (va_up (va_up (va_up (fun _ => none) 3 (some 59)) 4 (some 60)) 5 (some 61)) 6 (some 62)) 7 (some 63)), dm ++ [59] ++ [60] ++ [61] ++ [62] ++ [63], 64) 5 300 := by
    intro F G hf
    refine x_wp_ok ok56 [52] 6 ?_
    refine And.intro ⟨by decide, rfl, (x_nin (x_nin (x_nin (x_nin (x_nin n6 (show (64 : Nat) ≠ 59 by decide)) (show (64 : Nat) ≠ 60 by decide)) (show (64 : Nat) ≠ 61 by decide)) (show (64 : Nat) ≠ 62 by decide)) (show (64 : Nat) ≠ 63 by decide)), show (64 : Nat) < 1000 by decide, by decide⟩ ?_
    refine And.intro ⟨Nat.le_of_ble_eq_true rfl, Nat.le_of_ble_eq_true rfl⟩ ?_
    have e := s6 (va_up F 64 (fun _ => 0)) (va_up G 64 (fun _ => 0)) (fun c hc => ⟨by rw [x_un (by omega)]; exact (hf c hc).1, by rw [x_un (by omega)]; exact (hf c hc).2⟩)
    rw [← x_vu_up', ← x_row_a (a := 64) (ρ := x_HB4 R0 R1 R2 R3) (L := 58) (u := (va_up (va_up (va_up (va_up (va_up (fun _ => none) 3 (some 59)) 4 (some 60)) 5 (some 61)) 6 (some 62)) 7 (some 63))) rfl (by decide)] at e
    exact e
  have s4 : ∀ F G, (∀ c, c ≤ 58 ∨ 64 < c → F c = f c ∧ G c = g c) → x_J 56 (d + 1) Po 36 [some (.ref 58)] [] (F, G, va_up (x_HB4 R0 R1 R2 R3) 58 (va_up (va_up (va_up (va_up (fun _ => none) 3 (some 59)) 4 (some 60)) 5 (some 61)) 6 (some 62)), dm ++ [59] ++ [60] ++ [61] ++ [62], 63) 4 240 := by
    intro F G hf
    refine x_wp_ok ok56 [44] 6 ?_
    refine And.intro ⟨by decide, rfl, (x_nin (x_nin (x_nin (x_nin n5 (show (63 : Nat) ≠ 59 by decide)) (show (63 : Nat) ≠ 60 by decide)) (show (63 : Nat) ≠ 61 by decide)) (show (63 : Nat) ≠ 62 by decide)), show (63 : Nat) < 1000 by decide, by decide⟩ ?_
    refine And.intro ⟨Nat.le_of_ble_eq_true rfl, Nat.le_of_ble_eq_true rfl⟩ ?_
    have e := s5 (va_up F 63 (fun _ => 0)) (va_up G 63 (fun _ => 0)) (fun c hc => ⟨by rw [x_un (by omega)]; exact (hf c hc).1, by rw [x_un (by omega)]; exact (hf c hc).2⟩)
    rw [← x_vu_up', ← x_row_a (a := 63) (ρ := x_HB4 R0 R1 R2 R3) (L := 58) (u := (va_up (va_up (va_up (va_up (fun _ => none) 3 (some 59)) 4 (some 60)) 5 (some 61)) 6 (some 62))) rfl (by decide)] at e
    exact e
  have s3 : ∀ F G, (∀ c, c ≤ 58 ∨ 64 < c → F c = f c ∧ G c = g c) → x_J 56 (d + 1) Po 28 [some (.ref 58)] [] (F, G, va_up (x_HB4 R0 R1 R2 R3) 58 (va_up (va_up (va_up (fun _ => none) 3 (some 59)) 4 (some 60)) 5 (some 61)), dm ++ [59] ++ [60] ++ [61], 62) 3 180 := by
    intro F G hf
    refine x_wp_ok ok56 [36] 6 ?_
    refine And.intro ⟨by decide, rfl, (x_nin (x_nin (x_nin n4 (show (62 : Nat) ≠ 59 by decide)) (show (62 : Nat) ≠ 60 by decide)) (show (62 : Nat) ≠ 61 by decide)), show (62 : Nat) < 1000 by decide, by decide⟩ ?_
    refine And.intro ⟨Nat.le_of_ble_eq_true rfl, Nat.le_of_ble_eq_true rfl⟩ ?_
    have e := s4 (va_up F 62 (fun _ => 0)) (va_up G 62 (fun _ => 0)) (fun c hc => ⟨by rw [x_un (by omega)]; exact (hf c hc).1, by rw [x_un (by omega)]; exact (hf c hc).2⟩)
    rw [← x_vu_up', ← x_row_a (a := 62) (ρ := x_HB4 R0 R1 R2 R3) (L := 58) (u := (va_up (va_up (va_up (fun _ => none) 3 (some 59)) 4 (some 60)) 5 (some 61))) rfl (by decide)] at e
    exact e
  have s2 : ∀ F G, (∀ c, c ≤ 58 ∨ 64 < c → F c = f c ∧ G c = g c) → x_J 56 (d + 1) Po 20 [some (.ref 58)] [] (F, G, va_up (x_HB4 R0 R1 R2 R3) 58 (va_up (va_up (fun _ => none) 3 (some 59)) 4 (some 60)), dm ++ [59] ++ [60], 61) 2 120 := by
    intro F G hf
    refine x_wp_ok ok56 [28] 6 ?_
    refine And.intro ⟨by decide, rfl, (x_nin (x_nin n3 (show (61 : Nat) ≠ 59 by decide)) (show (61 : Nat) ≠ 60 by decide)), show (61 : Nat) < 1000 by decide, by decide⟩ ?_
    refine And.intro ⟨Nat.le_of_ble_eq_true rfl, Nat.le_of_ble_eq_true rfl⟩ ?_
    have e := s3 (va_up F 61 (fun _ => 0)) (va_up G 61 (fun _ => 0)) (fun c hc => ⟨by rw [x_un (by omega)]; exact (hf c hc).1, by rw [x_un (by omega)]; exact (hf c hc).2⟩)
    rw [← x_vu_up', ← x_row_a (a := 61) (ρ := x_HB4 R0 R1 R2 R3) (L := 58) (u := (va_up (va_up (fun _ => none) 3 (some 59)) 4 (some 60))) rfl (by decide)] at e
    exact e
  have s1 : ∀ F G, (∀ c, c ≤ 58 ∨ 64 < c → F c = f c ∧ G c = g c) → x_J 56 (d + 1) Po 12 [some (.ref 58)] [] (F, G, va_up (x_HB4 R0 R1 R2 R3) 58 (va_up (fun _ => none) 3 (some 59)), dm ++ [59], 60) 1 60 := by
    intro F G hf
    refine x_wp_ok ok56 [20] 6 ?_
    refine And.intro ⟨by decide, rfl, (x_nin n2 (show (60 : Nat) ≠ 59 by decide)), show (60 : Nat) < 1000 by decide, by decide⟩ ?_
    refine And.intro ⟨Nat.le_of_ble_eq_true rfl, Nat.le_of_ble_eq_true rfl⟩ ?_
    have e := s2 (va_up F 60 (fun _ => 0)) (va_up G 60 (fun _ => 0)) (fun c hc => ⟨by rw [x_un (by omega)]; exact (hf c hc).1, by rw [x_un (by omega)]; exact (hf c hc).2⟩)
    rw [← x_vu_up', ← x_row_a (a := 60) (ρ := x_HB4 R0 R1 R2 R3) (L := 58) (u := (va_up (fun _ => none) 3 (some 59))) rfl (by decide)] at e
    exact e
  have s0 : ∀ F G, (∀ c, c ≤ 58 ∨ 64 < c → F c = f c ∧ G c = g c) → x_J 56 (d + 1) Po 4 [some (.ref 58)] [] (F, G, va_up (x_HB4 R0 R1 R2 R3) 58 (fun _ => none), dm, 59) 0 0 := by
    intro F G hf
    refine x_wp_ok ok56 [12] 6 ?_
    refine And.intro ⟨by decide, rfl, n1, show (59 : Nat) < 1000 by decide, by decide⟩ ?_
    refine And.intro ⟨Nat.le_of_ble_eq_true rfl, Nat.le_of_ble_eq_true rfl⟩ ?_
    have e := s1 (va_up F 59 (fun _ => 0)) (va_up G 59 (fun _ => 0)) (fun c hc => ⟨by rw [x_un (by omega)]; exact (hf c hc).1, by rw [x_un (by omega)]; exact (hf c hc).2⟩)
    rw [← x_vu_up', ← x_row_a (a := 59) (ρ := x_HB4 R0 R1 R2 R3) (L := 58) (u := (fun _ => none)) rfl (by decide)] at e
    exact e
  refine x_Ct_w (by decide) (Nat.le_of_ble_eq_true rfl) ok56 [4] 6 ?_
  exact s0 f g (fun c _ => ⟨rfl, rfl⟩)
theorem c_initReigns_75 (n1 : 76 ∉ dm) (n2 : 77 ∉ dm) (n3 : 78 ∉ dm) (n4 : 79 ∉ dm) (n5 : 80 ∉ dm) (n6 : 81 ∉ dm) : x_Ct 56 (d + 1) [.ref 75] (f, g, va_up (x_HB4 R0 R1 R2 R3) 75 (fun _ => none), dm, 76) (fun z h' => z = none ∧ ∃ F G, h' = (F, G, x_HB4 R0 R1 R2 R3, dm ++ [76] ++ [77] ++ [78] ++ [79] ++ [80] ++ [81], 82) ∧ ∀ c, c ≤ 75 ∨ 81 < c → F c = f c ∧ G c = g c) := by
  obtain ⟨Po, hPo⟩ : ∃ Po : Option Value → xH → Prop, Po = (fun z h' => z = none ∧ ∃ F G, h' = (F, G, x_HB4 R0 R1 R2 R3, dm ++ [76] ++ [77] ++ [78] ++ [79] ++ [80] ++ [81], 82) ∧ ∀ c, c ≤ 75 ∨ 81 < c → F c = f c ∧ G c = g c) := ⟨_, rfl⟩
  rw [← hPo]
  have hrow : (va_up (va_up (va_up (va_up (va_up (va_up (fun _ => none) 3 (some 76)) 4 (some 77)) 5 (some 78)) 6 (some 79)) 7 (some 80)) 8 (some 81)) = x_HB4 R0 R1 R2 R3 75 := by
    funext b
    show _ = if 3 ≤ b ∧ b ≤ 8 then some (75 + (b - 2)) else none
    by_cases b8 : b = 8
    · subst b8
      rfl
    rw [x_un b8]
    by_cases b7 : b = 7
    · subst b7
      rfl
    rw [x_un b7]
    by_cases b6 : b = 6
    · subst b6
      rfl
    rw [x_un b6]
    by_cases b5 : b = 5
    · subst b5
      rfl
    rw [x_un b5]
    by_cases b4 : b = 4
    · subst b4
      rfl
    rw [x_un b4]
    by_cases b3 : b = 3
    · subst b3
      rfl
    rw [x_un b3]
    rw [if_neg (by omega)]
  have s6 : ∀ F G, (∀ c, c ≤ 75 ∨ 81 < c → F c = f c ∧ G c = g c) → x_J 56 (d + 1) Po 52 [some (.ref 75)] [] (F, G, va_up (x_HB4 R0 R1 R2 R3) 75 (va_up (va_up (va_up (va_up (va_up (va_up (fun _ => none) 3 (some 76)) 4 (some 77)) 5 (some 78)) 6 (some 79)) 7 (some 80)) 8 (some 81)), dm ++ [76] ++ [77] ++ [78] ++ [79] ++ [80] ++ [81], 82) 6 360 := by
    intro F G hf
    rw [x_row_f hrow]
    refine x_wp_ok ok56 [] 6 ?_
    refine And.intro ?_ ⟨trivial, Nat.le_of_ble_eq_true rfl, Nat.le_of_ble_eq_true rfl⟩
    rw [hPo]
    exact ⟨rfl, F, G, rfl, hf⟩
  have s5 : ∀ F G, (∀ c, c ≤ 75 ∨ 81 < c → F c = f c ∧ G c = g c) → x_J 56 (d + 1) Po 44 [some (.ref 75)] [] (F, G, va_up (x_HB4 R0 R1 R2 R3) 75 (va_up (va_up (va_up (va_up (va_up (fun _ => none) 3 (some 76)) 4 (some 77)) 5 (some 78)) 6 (some 79)) 7 (some 80)), dm ++ [76] ++ [77] ++ [78] ++ [79] ++ [80], 81) 5 300 := by
    intro F G hf
    refine x_wp_ok ok56 [52] 6 ?_
    refine And.intro ⟨by decide, rfl, (x_nin (x_nin (x_nin (x_nin (x_nin n6 (show (81 : Nat) ≠ 76 by decide)) (show (81 : Nat) ≠ 77 by decide)) (show (81 : Nat) ≠ 78 by decide)) (show (81 : Nat) ≠ 79 by decide)) (show (81 : Nat) ≠ 80 by decide)), show (81 : Nat) < 1000 by decide, by decide⟩ ?_
    refine And.intro ⟨Nat.le_of_ble_eq_true rfl, Nat.le_of_ble_eq_true rfl⟩ ?_
    have e := s6 (va_up F 81 (fun _ => 0)) (va_up G 81 (fun _ => 0)) (fun c hc => ⟨by rw [x_un (by omega)]; exact (hf c hc).1, by rw [x_un (by omega)]; exact (hf c hc).2⟩)
    rw [← x_vu_up', ← x_row_a (a := 81) (ρ := x_HB4 R0 R1 R2 R3) (L := 75) (u := (va_up (va_up (va_up (va_up (va_up (fun _ => none) 3 (some 76)) 4 (some 77)) 5 (some 78)) 6 (some 79)) 7 (some 80))) rfl (by decide)] at e
    exact e
  have s4 : ∀ F G, (∀ c, c ≤ 75 ∨ 81 < c → F c = f c ∧ G c = g c) → x_J 56 (d + 1) Po 36 [some (.ref 75)] [] (F, G, va_up (x_HB4 R0 R1 R2 R3) 75 (va_up (va_up (va_up (va_up (fun _ => none) 3 (some 76)) 4 (some 77)) 5 (some 78)) 6 (some 79)), dm ++ [76] ++ [77] ++ [78] ++ [79], 80) 4 240 := by
    intro F G hf
    refine x_wp_ok ok56 [44] 6 ?_
    refine And.intro ⟨by decide, rfl, (x_nin (x_nin (x_nin (x_nin n5 (show (80 : Nat) ≠ 76 by decide)) (show (80 : Nat) ≠ 77 by decide)) (show (80 : Nat) ≠ 78 by decide)) (show (80 : Nat) ≠ 79 by decide)), show (80 : Nat) < 1000 by decide, by decide⟩ ?_
    refine And.intro ⟨Nat.le_of_ble_eq_true rfl, Nat.le_of_ble_eq_true rfl⟩ ?_
    have e := s5 (va_up F 80 (fun _ => 0)) (va_up G 80 (fun _ => 0)) (fun c hc => ⟨by rw [x_un (by omega)]; exact (hf c hc).1, by rw [x_un (by omega)]; exact (hf c hc).2⟩)
    rw [← x_vu_up', ← x_row_a (a := 80) (ρ := x_HB4 R0 R1 R2 R3) (L := 75) (u := (va_up (va_up (va_up (va_up (fun _ => none) 3 (some 76)) 4 (some 77)) 5 (some 78)) 6 (some 79))) rfl (by decide)] at e
    exact e
  have s3 : ∀ F G, (∀ c, c ≤ 75 ∨ 81 < c → F c = f c ∧ G c = g c) → x_J 56 (d + 1) Po 28 [some (.ref 75)] [] (F, G, va_up (x_HB4 R0 R1 R2 R3) 75 (va_up (va_up (va_up (fun _ => none) 3 (some 76)) 4 (some 77)) 5 (some 78)), dm ++ [76] ++ [77] ++ [78], 79) 3 180 := by
    intro F G hf
    refine x_wp_ok ok56 [36] 6 ?_
    refine And.intro ⟨by decide, rfl, (x_nin (x_nin (x_nin n4 (show (79 : Nat) ≠ 76 by decide)) (show (79 : Nat) ≠ 77 by decide)) (show (79 : Nat) ≠ 78 by decide)), show (79 : Nat) < 1000 by decide, by decide⟩ ?_
    refine And.intro ⟨Nat.le_of_ble_eq_true rfl, Nat.le_of_ble_eq_true rfl⟩ ?_
    have e := s4 (va_up F 79 (fun _ => 0)) (va_up G 79 (fun _ => 0)) (fun c hc => ⟨by rw [x_un (by omega)]; exact (hf c hc).1, by rw [x_un (by omega)]; exact (hf c hc).2⟩)
    rw [← x_vu_up', ← x_row_a (a := 79) (ρ := x_HB4 R0 R1 R2 R3) (L := 75) (u := (va_up (va_up (va_up (fun _ => none) 3 (some 76)) 4 (some 77)) 5 (some 78))) rfl (by decide)] at e
    exact e
  have s2 : ∀ F G, (∀ c, c ≤ 75 ∨ 81 < c → F c = f c ∧ G c = g c) → x_J 56 (d + 1) Po 20 [some (.ref 75)] [] (F, G, va_up (x_HB4 R0 R1 R2 R3) 75 (va_up (va_up (fun _ => none) 3 (some 76)) 4 (some 77)), dm ++ [76] ++ [77], 78) 2 120 := by
    intro F G hf
    refine x_wp_ok ok56 [28] 6 ?_
    refine And.intro ⟨by decide, rfl, (x_nin (x_nin n3 (show (78 : Nat) ≠ 76 by decide)) (show (78 : Nat) ≠ 77 by decide)), show (78 : Nat) < 1000 by decide, by decide⟩ ?_
    refine And.intro ⟨Nat.le_of_ble_eq_true rfl, Nat.le_of_ble_eq_true rfl⟩ ?_
    have e := s3 (va_up F 78 (fun _ => 0)) (va_up G 78 (fun _ => 0)) (fun c hc => ⟨by rw [x_un (by omega)]; exact (hf c hc).1, by rw [x_un (by omega)]; exact (hf c hc).2⟩)
    rw [← x_vu_up', ← x_row_a (a := 78) (ρ := x_HB4 R0 R1 R2 R3) (L := 75) (u := (va_up (va_up (fun _ => none) 3 (some 76)) 4 (some 77))) rfl (by decide)] at e
    exact e
  have s1 : ∀ F G, (∀ c, c ≤ 75 ∨ 81 < c → F c = f c ∧ G c = g c) → x_J 56 (d + 1) Po 12 [some (.ref 75)] [] (F, G, va_up (x_HB4 R0 R1 R2 R3) 75 (va_up (fun _ => none) 3 (some 76)), dm ++ [76], 77) 1 60 := by
    intro F G hf
    refine x_wp_ok ok56 [20] 6 ?_
    refine And.intro ⟨by decide, rfl, (x_nin n2 (show (77 : Nat) ≠ 76 by decide)), show (77 : Nat) < 1000 by decide, by decide⟩ ?_
    refine And.intro ⟨Nat.le_of_ble_eq_true rfl, Nat.le_of_ble_eq_true rfl⟩ ?_
    have e := s2 (va_up F 77 (fun _ => 0)) (va_up G 77 (fun _ => 0)) (fun c hc => ⟨by rw [x_un (by omega)]; exact (hf c hc).1, by rw [x_un (by omega)]; exact (hf c hc).2⟩)
    rw [← x_vu_up', ← x_row_a (a := 77) (ρ := x_HB4 R0 R1 R2 R3) (L := 75) (u := (va_up (fun _ => none) 3 (some 76))) rfl (by decide)] at e
    exact e
  have s0 : ∀ F G, (∀ c, c ≤ 75 ∨ 81 < c → F c = f c ∧ G c = g c) → x_J 56 (d + 1) Po 4 [some (.ref 75)] [] (F, G, va_up (x_HB4 R0 R1 R2 R3) 75 (fun _ => none), dm, 76) 0 0 := by
    intro F G hf
    refine x_wp_ok ok56 [12] 6 ?_
    refine And.intro ⟨by decide, rfl, n1, show (76 : Nat) < 1000 by decide, by decide⟩ ?_
    refine And.intro ⟨Nat.le_of_ble_eq_true rfl, Nat.le_of_ble_eq_true rfl⟩ ?_
    have e := s1 (va_up F 76 (fun _ => 0)) (va_up G 76 (fun _ => 0)) (fun c hc => ⟨by rw [x_un (by omega)]; exact (hf c hc).1, by rw [x_un (by omega)]; exact (hf c hc).2⟩)
    rw [← x_vu_up', ← x_row_a (a := 76) (ρ := x_HB4 R0 R1 R2 R3) (L := 75) (u := (fun _ => none)) rfl (by decide)] at e
    exact e
  refine x_Ct_w (by decide) (Nat.le_of_ble_eq_true rfl) ok56 [4] 6 ?_
  exact s0 f g (fun c _ => ⟨rfl, rfl⟩)
theorem c_initReigns_92 (n1 : 93 ∉ dm) (n2 : 94 ∉ dm) (n3 : 95 ∉ dm) (n4 : 96 ∉ dm) (n5 : 97 ∉ dm) (n6 : 98 ∉ dm) : x_Ct 56 (d + 1) [.ref 92] (f, g, va_up (x_HB4 R0 R1 R2 R3) 92 (fun _ => none), dm, 93) (fun z h' => z = none ∧ ∃ F G, h' = (F, G, x_HB4 R0 R1 R2 R3, dm ++ [93] ++ [94] ++ [95] ++ [96] ++ [97] ++ [98], 99) ∧ ∀ c, c ≤ 92 ∨ 98 < c → F c = f c ∧ G c = g c) := by
  obtain ⟨Po, hPo⟩ : ∃ Po : Option Value → xH → Prop, Po = (fun z h' => z = none ∧ ∃ F G, h' = (F, G, x_HB4 R0 R1 R2 R3, dm ++ [93] ++ [94] ++ [95] ++ [96] ++ [97] ++ [98], 99) ∧ ∀ c, c ≤ 92 ∨ 98 < c → F c = f c ∧ G c = g c) := ⟨_, rfl⟩
  rw [← hPo]
  have hrow : (va_up (va_up (va_up (va_up (va_up (va_up (fun _ => none) 3 (some 93)) 4 (some 94)) 5 (some 95)) 6 (some 96)) 7 (some 97)) 8 (some 98)) = x_HB4 R0 R1 R2 R3 92 := by
    funext b
    show _ = if 3 ≤ b ∧ b ≤ 8 then some (92 + (b - 2)) else none
    by_cases b8 : b = 8
    · subst b8
      rfl
    rw [x_un b8]
    by_cases b7 : b = 7
    · subst b7
      rfl
    rw [x_un b7]
    by_cases b6 : b = 6
    · subst b6
      rfl
    rw [x_un b6]
    by_cases b5 : b = 5
    · subst b5
      rfl
    rw [x_un b5]
    by_cases b4 : b = 4
    · subst b4
      rfl
    rw [x_un b4]
    by_cases b3 : b = 3
    · subst b3
      rfl
    rw [x_un b3]
    rw [if_neg (by omega)]
  have s6 : ∀ F G, (∀ c, c ≤ 92 ∨ 98 < c → F c = f c ∧ G c = g c) → x_J 56 (d + 1) Po 52 [some (.ref 92)] [] (F, G, va_up (x_HB4 R0 R1 R2 R3) 92 (va_up (va_up (va_up (va_up (va_up (va_up (fun _ => none) 3 (some 93)) 4 (some 94)) 5 (some 95)) 6 (some 96)) 7 (some 97)) 8 (some 98)), dm ++ [93] ++ [94] ++ [95] ++ [96] ++ [97] ++ [98], 99) 6 360 := by
    intro F G hf
    rw [x_row_f hrow]
    refine x_wp_ok ok56 [] 6 ?_
    refine And.intro ?_ ⟨trivial, Nat.le_of_ble_eq_true rfl, Nat.le_of_ble_eq_true rfl⟩
    rw [hPo]
    exact ⟨rfl, F, G, rfl, hf⟩
  have s5 : ∀ F G, (∀ c, c ≤ 92 ∨ 98 < c → F c = f c ∧ G c = g c) → x_J 56 (d + 1) Po 44 [some (.ref 92)] [] (F, G, va_up (x_HB4 R0 R1 R2 R3) 92 (va_up (va_up (va_up (va_up (va_up (fun _ => none) 3 (some 93)) 4 (some 94)) 5 (some 95)) 6 (some 96)) 7 (some 97)), dm ++ [93] ++ [94] ++ [95] ++ [96] ++ [97], 98) 5 300 := by
    intro F G hf
    refine x_wp_ok ok56 [52] 6 ?_
    refine And.intro ⟨by decide, rfl, (x_nin (x_nin (x_nin (x_nin (x_nin n6 (show (98 : Nat) ≠ 93 by decide)) (show (98 : Nat) ≠ 94 by decide)) (show (98 : Nat) ≠ 95 by decide)) (show (98 : Nat) ≠ 96 by decide)) (show (98 : Nat) ≠ 97 by decide)), show (98 : Nat) < 1000 by decide, by decide⟩ ?_
    refine And.intro ⟨Nat.le_of_ble_eq_true rfl, Nat.le_of_ble_eq_true rfl⟩ ?_
    have e := s6 (va_up F 98 (fun _ => 0)) (va_up G 98 (fun _ => 0)) (fun c hc => ⟨by rw [x_un (by omega)]; exact (hf c hc).1, by rw [x_un (by omega)]; exact (hf c hc).2⟩)
    rw [← x_vu_up', ← x_row_a (a := 98) (ρ := x_HB4 R0 R1 R2 R3) (L := 92) (u := (va_up (va_up (va_up (va_up (va_up (fun _ => none) 3 (some 93)) 4 (some 94)) 5 (some 95)) 6 (some 96)) 7 (some 97))) rfl (by decide)] at e
    exact e
  have s4 : ∀ F G, (∀ c, c ≤ 92 ∨ 98 < c → F c = f c ∧ G c = g c) → x_J 56 (d + 1) Po 36 [some (.ref 92)] [] (F, G, va_up (x_HB4 R0 R1 R2 R3) 92 (va_up (va_up (va_up (va_up (fun _ => none) 3 (some 93)) 4 (some 94)) 5 (some 95)) 6 (some 96)), dm ++ [93] ++ [94] ++ [95] ++ [96], 97) 4 240 := by
    intro F G hf
    refine x_wp_ok ok56 [44] 6 ?_
    refine And.intro ⟨by decide, rfl, (x_nin (x_nin (x_nin (x_nin n5 (show (97 : Nat) ≠ 93 by decide)) (show (97 : Nat) ≠ 94 by decide)) (show (97 : Nat) ≠ 95 by decide)) (show (97 : Nat) ≠ 96 by decide)), show (97 : Nat) < 1000 by decide, by decide⟩ ?_
    refine And.intro ⟨Nat.le_of_ble_eq_true rfl, Nat.le_of_ble_eq_true rfl⟩ ?_
    have e := s5 (va_up F 97 (fun _ => 0)) (va_up G 97 (fun _ => 0)) (fun c hc => ⟨by rw [x_un (by omega)]; exact (hf c hc).1, by rw [x_un (by omega)]; exact (hf c hc).2⟩)
    rw [← x_vu_up', ← x_row_a (a := 97) (ρ := x_HB4 R0 R1 R2 R3) (L := 92) (u := (va_up (va_up (va_up (va_up (fun _ => none) 3 (some 93)) 4 (some 94)) 5 (some 95)) 6 (some 96))) rfl (by decide)] at e
    exact e
  have s3 : ∀ F G, (∀ c, c ≤ 92 ∨ 98 < c → F c = f c ∧ G c = g c) → x_J 56 (d + 1) Po 28 [some (.ref 92)] [] (F, G, va_up (x_HB4 R0 R1 R2 R3) 92 (va_up (va_up (va_up (fun _ => none) 3 (some 93)) 4 (some 94)) 5 (some 95)), dm ++ [93] ++ [94] ++ [95], 96) 3 180 := by
    intro F G hf
    refine x_wp_ok ok56 [36] 6 ?_
    refine And.intro ⟨by decide, rfl, (x_nin (x_nin (x_nin n4 (show (96 : Nat) ≠ 93 by decide)) (show (96 : Nat) ≠ 94 by decide)) (show (96 : Nat) ≠ 95 by decide)), show (96 : Nat) < 1000 by decide, by decide⟩ ?_
    refine And.intro ⟨Nat.le_of_ble_eq_true rfl, Nat.le_of_ble_eq_true rfl⟩ ?_
    have e := s4 (va_up F 96 (fun _ => 0)) (va_up G 96 (fun _ => 0)) (fun c hc => ⟨by rw [x_un (by omega)]; exact (hf c hc).1, by rw [x_un (by omega)]; exact (hf c hc).2⟩)
    rw [← x_vu_up', ← x_row_a (a := 96) (ρ := x_HB4 R0 R1 R2 R3) (L := 92) (u := (va_up (va_up (va_up (fun _ => none) 3 (some 93)) 4 (some 94)) 5 (some 95))) rfl (by decide)] at e
    exact e
  have s2 : ∀ F G, (∀ c, c ≤ 92 ∨ 98 < c → F c = f c ∧ G c = g c) → x_J 56 (d + 1) Po 20 [some (.ref 92)] [] (F, G, va_up (x_HB4 R0 R1 R2 R3) 92 (va_up (va_up (fun _ => none) 3 (some 93)) 4 (some 94)), dm ++ [93] ++ [94], 95) 2 120 := by
    intro F G hf
    refine x_wp_ok ok56 [28] 6 ?_
    refine And.intro ⟨by decide, rfl, (x_nin (x_nin n3 (show (95 : Nat) ≠ 93 by decide)) (show (95 : Nat) ≠ 94 by decide)), show (95 : Nat) < 1000 by decide, by decide⟩ ?_
    refine And.intro ⟨Nat.le_of_ble_eq_true rfl, Nat.le_of_ble_eq_true rfl⟩ ?_
    have e := s3 (va_up F 95 (fun _ => 0)) (va_up G 95 (fun _ => 0)) (fun c hc => ⟨by rw [x_un (by omega)]; exact (hf c hc).1, by rw [x_un (by omega)]; exact (hf c hc).2⟩)
    rw [← x_vu_up', ← x_row_a (a := 95) (ρ := x_HB4 R0 R1 R2 R3) (L := 92) (u := (va_up (va_up (fun _ => none) 3 (some 93)) 4 (some 94))) rfl (by decide)] at e
    exact e
  have s1 : ∀ F G, (∀ c, c ≤ 92 ∨ 98 < c → F c = f c ∧ G c = g c) → x_J 56 (d + 1) Po 12 [some (.ref 92)] [] (F, G, va_up (x_HB4 R0 R1 R2 R3) 92 (va_up (fun _ => none) 3 (some 93)), dm ++ [93], 94) 1 60 := by
    intro F G hf
    refine x_wp_ok ok56 [20] 6 ?_
    refine And.intro ⟨by decide, rfl, (x_nin n2 (show (94 : Nat) ≠ 93 by decide)), show (94 : Nat) < 1000 by decide, by decide⟩ ?_
    refine And.intro ⟨Nat.le_of_ble_eq_true rfl, Nat.le_of_ble_eq_true rfl⟩ ?_
    have e := s2 (va_up F 94 (fun _ => 0)) (va_up G 94 (fun _ => 0)) (fun c hc => ⟨by rw [x_un (by omega)]; exact (hf c hc).1, by rw [x_un (by omega)]; exact (hf c hc).2⟩)
    rw [← x_vu_up', ← x_row_a (a := 94) (ρ := x_HB4 R0 R1 R2 R3) (L := 92) (u := (va_up (fun _ => none) 3 (some 93))) rfl (by decide)] at e
    exact e
  have s0 : ∀ F G, (∀ c, c ≤ 92 ∨ 98 < c → F c = f c ∧ G c = g c) → x_J 56 (d + 1) Po 4 [some (.ref 92)] [] (F, G, va_up (x_HB4 R0 R1 R2 R3) 92 (fun _ => none), dm, 93) 0 0 := by
    intro F G hf
    refine x_wp_ok ok56 [12] 6 ?_
    refine And.intro ⟨by decide, rfl, n1, show (93 : Nat) < 1000 by decide, by decide⟩ ?_
    refine And.intro ⟨Nat.le_of_ble_eq_true rfl, Nat.le_of_ble_eq_true rfl⟩ ?_
    have e := s1 (va_up F 93 (fun _ => 0)) (va_up G 93 (fun _ => 0)) (fun c hc => ⟨by rw [x_un (by omega)]; exact (hf c hc).1, by rw [x_un (by omega)]; exact (hf c hc).2⟩)
    rw [← x_vu_up', ← x_row_a (a := 93) (ρ := x_HB4 R0 R1 R2 R3) (L := 92) (u := (fun _ => none)) rfl (by decide)] at e
    exact e
  refine x_Ct_w (by decide) (Nat.le_of_ble_eq_true rfl) ok56 [4] 6 ?_
  exact s0 f g (fun c _ => ⟨rfl, rfl⟩)
theorem c_initTray_2 (n1 : 3 ∉ dm) : x_Ct 92 (d + 1) [.ref 2] (f, g, va_up (x_HB4 R0 R1 R2 R3) 2 (fun _ => none), dm, 3) (fun z h' => z = none ∧ h' = (x_up (va_up f 3 (fun _ => 0)) 2 1 (-1), va_up g 3 (fun _ => 0), x_HB4 R0 R1 R2 R3, dm ++ [3], 4)) := by
  have hrow : va_up (fun _ => none) 0 (some 3) = x_HB4 R0 R1 R2 R3 2 := by
    funext b
    show _ = if b = 0 then some (2 + 1) else none
    by_cases b0 : b = 0
    · subst b0
      rfl
    · rw [x_un b0, if_neg b0]
  have hE : x_up (va_up (va_up (x_HB4 R0 R1 R2 R3) 2 (fun _ => none)) 3 (fun _ => none)) 2 0 (some 3) = x_HB4 R0 R1 R2 R3 := by
    rw [x_row_a rfl (by decide), x_vu_up', x_row_f hrow]
  refine x_Ct_w (by decide) (Nat.le_of_ble_eq_true rfl) ok92 [] 6 ?_
  refine And.intro ⟨by decide, rfl, n1, show (3 : Nat) < 1000 by decide, by decide⟩ ?_
  refine And.intro ⟨Nat.le_of_ble_eq_true rfl, Nat.le_of_ble_eq_true rfl⟩ ?_
  refine And.intro ?_ ⟨trivial, Nat.le_of_ble_eq_true rfl, Nat.le_of_ble_eq_true rfl⟩
  refine ⟨rfl, ?_⟩
  show (x_up (va_up f 3 (fun _ => 0)) 2 1 (-1), va_up g 3 (fun _ => 0), x_up (va_up (va_up (x_HB4 R0 R1 R2 R3) 2 (fun _ => none)) 3 (fun _ => none)) 2 0 (some 3), dm ++ [3], 4) = _
  rw [hE]
theorem c_initTray_4 (n1 : 5 ∉ dm) : x_Ct 92 (d + 1) [.ref 4] (f, g, va_up (x_HB4 R0 R1 R2 R3) 4 (fun _ => none), dm, 5) (fun z h' => z = none ∧ h' = (x_up (va_up f 5 (fun _ => 0)) 4 1 (-1), va_up g 5 (fun _ => 0), x_HB4 R0 R1 R2 R3, dm ++ [5], 6)) := by
  have hrow : va_up (fun _ => none) 0 (some 5) = x_HB4 R0 R1 R2 R3 4 := by
    funext b
    show _ = if b = 0 then some (4 + 1) else none
    by_cases b0 : b = 0
    · subst b0
      rfl
    · rw [x_un b0, if_neg b0]
  have hE : x_up (va_up (va_up (x_HB4 R0 R1 R2 R3) 4 (fun _ => none)) 5 (fun _ => none)) 4 0 (some 5) = x_HB4 R0 R1 R2 R3 := by
    rw [x_row_a rfl (by decide), x_vu_up', x_row_f hrow]
  refine x_Ct_w (by decide) (Nat.le_of_ble_eq_true rfl) ok92 [] 6 ?_
  refine And.intro ⟨by decide, rfl, n1, show (5 : Nat) < 1000 by decide, by decide⟩ ?_
  refine And.intro ⟨Nat.le_of_ble_eq_true rfl, Nat.le_of_ble_eq_true rfl⟩ ?_
  refine And.intro ?_ ⟨trivial, Nat.le_of_ble_eq_true rfl, Nat.le_of_ble_eq_true rfl⟩
  refine ⟨rfl, ?_⟩
  show (x_up (va_up f 5 (fun _ => 0)) 4 1 (-1), va_up g 5 (fun _ => 0), x_up (va_up (va_up (x_HB4 R0 R1 R2 R3) 4 (fun _ => none)) 5 (fun _ => none)) 4 0 (some 5), dm ++ [5], 6) = _
  rw [hE]
theorem c_initTray_6 (n1 : 7 ∉ dm) : x_Ct 92 (d + 1) [.ref 6] (f, g, va_up (x_HB4 R0 R1 R2 R3) 6 (fun _ => none), dm, 7) (fun z h' => z = none ∧ h' = (x_up (va_up f 7 (fun _ => 0)) 6 1 (-1), va_up g 7 (fun _ => 0), x_HB4 R0 R1 R2 R3, dm ++ [7], 8)) := by
  have hrow : va_up (fun _ => none) 0 (some 7) = x_HB4 R0 R1 R2 R3 6 := by
    funext b
    show _ = if b = 0 then some (6 + 1) else none
    by_cases b0 : b = 0
    · subst b0
      rfl
    · rw [x_un b0, if_neg b0]
  have hE : x_up (va_up (va_up (x_HB4 R0 R1 R2 R3) 6 (fun _ => none)) 7 (fun _ => none)) 6 0 (some 7) = x_HB4 R0 R1 R2 R3 := by
    rw [x_row_a rfl (by decide), x_vu_up', x_row_f hrow]
  refine x_Ct_w (by decide) (Nat.le_of_ble_eq_true rfl) ok92 [] 6 ?_
  refine And.intro ⟨by decide, rfl, n1, show (7 : Nat) < 1000 by decide, by decide⟩ ?_
  refine And.intro ⟨Nat.le_of_ble_eq_true rfl, Nat.le_of_ble_eq_true rfl⟩ ?_
  refine And.intro ?_ ⟨trivial, Nat.le_of_ble_eq_true rfl, Nat.le_of_ble_eq_true rfl⟩
  refine ⟨rfl, ?_⟩
  show (x_up (va_up f 7 (fun _ => 0)) 6 1 (-1), va_up g 7 (fun _ => 0), x_up (va_up (va_up (x_HB4 R0 R1 R2 R3) 6 (fun _ => none)) 7 (fun _ => none)) 6 0 (some 7), dm ++ [7], 8) = _
  rw [hE]
theorem c_initTray_8 (n1 : 9 ∉ dm) : x_Ct 92 (d + 1) [.ref 8] (f, g, va_up (x_HB4 R0 R1 R2 R3) 8 (fun _ => none), dm, 9) (fun z h' => z = none ∧ h' = (x_up (va_up f 9 (fun _ => 0)) 8 1 (-1), va_up g 9 (fun _ => 0), x_HB4 R0 R1 R2 R3, dm ++ [9], 10)) := by
  have hrow : va_up (fun _ => none) 0 (some 9) = x_HB4 R0 R1 R2 R3 8 := by
    funext b
    show _ = if b = 0 then some (8 + 1) else none
    by_cases b0 : b = 0
    · subst b0
      rfl
    · rw [x_un b0, if_neg b0]
  have hE : x_up (va_up (va_up (x_HB4 R0 R1 R2 R3) 8 (fun _ => none)) 9 (fun _ => none)) 8 0 (some 9) = x_HB4 R0 R1 R2 R3 := by
    rw [x_row_a rfl (by decide), x_vu_up', x_row_f hrow]
  refine x_Ct_w (by decide) (Nat.le_of_ble_eq_true rfl) ok92 [] 6 ?_
  refine And.intro ⟨by decide, rfl, n1, show (9 : Nat) < 1000 by decide, by decide⟩ ?_
  refine And.intro ⟨Nat.le_of_ble_eq_true rfl, Nat.le_of_ble_eq_true rfl⟩ ?_
  refine And.intro ?_ ⟨trivial, Nat.le_of_ble_eq_true rfl, Nat.le_of_ble_eq_true rfl⟩
  refine ⟨rfl, ?_⟩
  show (x_up (va_up f 9 (fun _ => 0)) 8 1 (-1), va_up g 9 (fun _ => 0), x_up (va_up (va_up (x_HB4 R0 R1 R2 R3) 8 (fun _ => none)) 9 (fun _ => none)) 8 0 (some 9), dm ++ [9], 10) = _
  rw [hE]
theorem c_initReader_10 (n1 : 11 ∉ dm) : x_Ct 78 (d + 1) [.ref 10] (f, g, va_up (x_HB4 R0 R1 R2 R3) 10 (fun _ => none), dm, 11) (fun z h' => z = none ∧ h' = (va_up f 11 (fun _ => 0), va_up g 11 (fun _ => 0), x_HB4 R0 R1 R2 R3, dm ++ [11], 12)) := by
  have hrow : va_up (fun _ => none) 0 (some 11) = x_HB4 R0 R1 R2 R3 10 := by
    funext b
    show _ = if b = 0 then some (10 + 1) else none
    by_cases b0 : b = 0
    · subst b0
      rfl
    · rw [x_un b0, if_neg b0]
  have hE : x_up (va_up (va_up (x_HB4 R0 R1 R2 R3) 10 (fun _ => none)) 11 (fun _ => none)) 10 0 (some 11) = x_HB4 R0 R1 R2 R3 := by
    rw [x_row_a rfl (by decide), x_vu_up', x_row_f hrow]
  refine x_Ct_w (by decide) (Nat.le_of_ble_eq_true rfl) ok78 [] 6 ?_
  refine And.intro ⟨by decide, rfl, n1, show (11 : Nat) < 1000 by decide, by decide⟩ ?_
  refine And.intro ⟨Nat.le_of_ble_eq_true rfl, Nat.le_of_ble_eq_true rfl⟩ ?_
  refine And.intro ?_ ⟨trivial, Nat.le_of_ble_eq_true rfl, Nat.le_of_ble_eq_true rfl⟩
  refine ⟨rfl, ?_⟩
  show (va_up f 11 (fun _ => 0), va_up g 11 (fun _ => 0), x_up (va_up (va_up (x_HB4 R0 R1 R2 R3) 10 (fun _ => none)) 11 (fun _ => none)) 10 0 (some 11), dm ++ [11], 12) = _
  rw [hE]
theorem c_initTeller_99 (n1 : 100 ∉ dm) : x_Ct 66 (d + 1) [.ref 99] (f, g, va_up (x_HB4 R0 R1 R2 R3) 99 (fun _ => none), dm, 100) (fun z h' => z = none ∧ h' = (va_up f 100 (fun _ => 0), va_up g 100 (fun _ => 0), x_HB4 R0 R1 R2 R3, dm ++ [100], 101)) := by
  have hrow : va_up (fun _ => none) 0 (some 100) = x_HB4 R0 R1 R2 R3 99 := by
    funext b
    show _ = if b = 0 then some (99 + 1) else none
    by_cases b0 : b = 0
    · subst b0
      rfl
    · rw [x_un b0, if_neg b0]
  have hE : x_up (va_up (va_up (x_HB4 R0 R1 R2 R3) 99 (fun _ => none)) 100 (fun _ => none)) 99 0 (some 100) = x_HB4 R0 R1 R2 R3 := by
    rw [x_row_a rfl (by decide), x_vu_up', x_row_f hrow]
  refine x_Ct_w (by decide) (Nat.le_of_ble_eq_true rfl) ok66 [] 6 ?_
  refine And.intro ⟨by decide, rfl, n1, show (100 : Nat) < 1000 by decide, by decide⟩ ?_
  refine And.intro ⟨Nat.le_of_ble_eq_true rfl, Nat.le_of_ble_eq_true rfl⟩ ?_
  refine And.intro ?_ ⟨trivial, Nat.le_of_ble_eq_true rfl, Nat.le_of_ble_eq_true rfl⟩
  refine ⟨rfl, ?_⟩
  show (va_up f 100 (fun _ => 0), va_up g 100 (fun _ => 0), x_up (va_up (va_up (x_HB4 R0 R1 R2 R3) 99 (fun _ => none)) 100 (fun _ => none)) 99 0 (some 100), dm ++ [100], 101) = _
  rw [hE]
theorem c_initMatch : x_Ct 52 (d + 1) [.ref 101, .ref 99] (f, g, va_up (x_HB4 R0 R1 R2 R3) 101 (fun _ => none), dm, n) (fun z h' => z = none ∧ h' = (f, g, x_HB4 R0 R1 R2 R3, dm, n)) := by
  have hrow : va_up (fun _ => none) 0 (some 99) = x_HB4 R0 R1 R2 R3 101 := by
    funext b
    show _ = if b = 0 then some 99 else none
    by_cases b0 : b = 0
    · subst b0
      rfl
    · rw [x_un b0, if_neg b0]
  have hE : x_up (va_up (x_HB4 R0 R1 R2 R3) 101 (fun _ => none)) 101 0 (some 99) = x_HB4 R0 R1 R2 R3 := by
    rw [x_vu_up', x_row_f hrow]
  refine x_Ct_w (by decide) (Nat.le_of_ble_eq_true rfl) ok52 [] 6 ?_
  refine And.intro ?_ ⟨trivial, Nat.le_of_ble_eq_true rfl, Nat.le_of_ble_eq_true rfl⟩
  refine ⟨rfl, ?_⟩
  show (f, g, x_up (va_up (x_HB4 R0 R1 R2 R3) 101 (fun _ => none)) 101 0 (some 99), dm, n) = _
  rw [hE]
theorem c_initLife_102 (n1 : 103 ∉ dm) : x_Ct 43 (d + 1) [.ref 102, .ref 99] (f, g, va_up (x_HB4 R0 R1 R2 R3) 102 (fun _ => none), dm, 103) (fun z h' => z = none ∧ h' = (va_up f 103 (fun _ => 0), va_up g 103 (fun _ => 0), x_HB4 R0 R1 R2 R3, dm ++ [103], 104)) := by
  have hrow : va_up (va_up (fun _ => none) 1 (some 103)) 0 (some 99) = x_HB4 R0 R1 R2 R3 102 := by
    funext b
    show _ = if b = 0 then some 99 else if b = 1 then some (102 + 1) else none
    by_cases b0 : b = 0
    · subst b0
      rfl
    · rw [x_un b0, if_neg b0]
      by_cases b1 : b = 1
      · subst b1
        rfl
      · rw [x_un b1, if_neg b1]
  have hE : x_up (x_up (va_up (va_up (x_HB4 R0 R1 R2 R3) 102 (fun _ => none)) 103 (fun _ => none)) 102 1 (some 103)) 102 0 (some 99) = x_HB4 R0 R1 R2 R3 := by
    rw [x_row_a rfl (by decide), x_vu_up', x_vu_up', x_row_f hrow]
  refine x_Ct_w (by decide) (Nat.le_of_ble_eq_true rfl) ok43 [] 6 ?_
  refine And.intro ⟨by decide, rfl, n1, show (103 : Nat) < 1000 by decide, by decide⟩ ?_
  refine And.intro ⟨Nat.le_of_ble_eq_true rfl, Nat.le_of_ble_eq_true rfl⟩ ?_
  refine And.intro ?_ ⟨trivial, Nat.le_of_ble_eq_true rfl, Nat.le_of_ble_eq_true rfl⟩
  refine ⟨rfl, ?_⟩
  show (va_up f 103 (fun _ => 0), va_up g 103 (fun _ => 0), x_up (x_up (va_up (va_up (x_HB4 R0 R1 R2 R3) 102 (fun _ => none)) 103 (fun _ => none)) 102 1 (some 103)) 102 0 (some 99), dm ++ [103], 104) = _
  rw [hE]
theorem c_initLife_104 (n1 : 105 ∉ dm) : x_Ct 43 (d + 1) [.ref 104, .ref 99] (f, g, va_up (x_HB4 R0 R1 R2 R3) 104 (fun _ => none), dm, 105) (fun z h' => z = none ∧ h' = (va_up f 105 (fun _ => 0), va_up g 105 (fun _ => 0), x_HB4 R0 R1 R2 R3, dm ++ [105], 106)) := by
  have hrow : va_up (va_up (fun _ => none) 1 (some 105)) 0 (some 99) = x_HB4 R0 R1 R2 R3 104 := by
    funext b
    show _ = if b = 0 then some 99 else if b = 1 then some (104 + 1) else none
    by_cases b0 : b = 0
    · subst b0
      rfl
    · rw [x_un b0, if_neg b0]
      by_cases b1 : b = 1
      · subst b1
        rfl
      · rw [x_un b1, if_neg b1]
  have hE : x_up (x_up (va_up (va_up (x_HB4 R0 R1 R2 R3) 104 (fun _ => none)) 105 (fun _ => none)) 104 1 (some 105)) 104 0 (some 99) = x_HB4 R0 R1 R2 R3 := by
    rw [x_row_a rfl (by decide), x_vu_up', x_vu_up', x_row_f hrow]
  refine x_Ct_w (by decide) (Nat.le_of_ble_eq_true rfl) ok43 [] 6 ?_
  refine And.intro ⟨by decide, rfl, n1, show (105 : Nat) < 1000 by decide, by decide⟩ ?_
  refine And.intro ⟨Nat.le_of_ble_eq_true rfl, Nat.le_of_ble_eq_true rfl⟩ ?_
  refine And.intro ?_ ⟨trivial, Nat.le_of_ble_eq_true rfl, Nat.le_of_ble_eq_true rfl⟩
  refine ⟨rfl, ?_⟩
  show (va_up f 105 (fun _ => 0), va_up g 105 (fun _ => 0), x_up (x_up (va_up (va_up (x_HB4 R0 R1 R2 R3) 104 (fun _ => none)) 105 (fun _ => none)) 104 1 (some 105)) 104 0 (some 99), dm ++ [105], 106) = _
  rw [hE]
/-- rows that are being filled -/
theorem x_H4_0 {b : Nat} {w : Option Nat} : x_up (x_HB4 R0 R1 R2 R3) 0 b w = x_HB4 (va_up R0 b w) R1 R2 R3 := by
  unfold x_HB4
  rw [va_up_sw (f := va_up (va_up (x_HR 12 32) 0 R0) 1 R1) (show (46 : Nat) ≠ 47 by decide)]
  funext c
  by_cases h0 : c = 0
  · rw [h0]
    unfold x_up
    rw [x_us, x_un (by decide), x_un (by decide), x_un (by decide), x_us, x_un (by decide), x_un (by decide), x_un (by decide), x_us]
  · rw [x_up_k h0]
    by_cases h3 : c = 47
    · rw [h3, x_un (by decide), x_us, x_us]
    · by_cases h2 : c = 46
      · rw [h2, x_us, x_un (by decide), x_us]
      · by_cases h1 : c = 1
        · rw [h1, x_un (by decide), x_un (by decide), x_us, x_un (by decide), x_un (by decide), x_us]
        · rw [x_un h2, x_un h3, x_un h1, x_un h0, x_un h3, x_un h2, x_un h1, x_un h0]
theorem x_H4_1 {b : Nat} {w : Option Nat} : x_up (x_HB4 R0 R1 R2 R3) 1 b w = x_HB4 R0 (va_up R1 b w) R2 R3 := by
  unfold x_HB4
  funext c
  by_cases h1 : c = 1
  · rw [h1]
    unfold x_up
    rw [x_us, x_un (by decide), x_un (by decide), x_us, x_un (by decide), x_un (by decide), x_us]
  · rw [x_up_k h1]
    by_cases h3 : c = 47
    · rw [h3, x_us, x_us]
    · by_cases h2 : c = 46
      · rw [h2, x_un (by decide), x_us, x_un (by decide), x_us]
      · rw [x_un h3, x_un h2, x_un h1, x_un h3, x_un h2, x_un h1]
theorem x_H4_2 {b : Nat} {w : Option Nat} : x_up (x_HB4 R0 R1 R2 R3) 46 b w = x_HB4 R0 R1 (va_up R2 b w) R3 := by
  unfold x_HB4
  funext c
  by_cases h2 : c = 46
  · rw [h2]
    unfold x_up
    rw [x_us, x_un (by decide), x_us, x_un (by decide), x_us]
  · rw [x_up_k h2]
    by_cases h3 : c = 47
    · rw [h3, x_us, x_us]
    · rw [x_un h3, x_un h2, x_un h3, x_un h2]
theorem x_H4_3 {b : Nat} {w : Option Nat} : x_up (x_HB4 R0 R1 R2 R3) 47 b w = x_HB4 R0 R1 R2 (va_up R3 b w) := x_vu_up'
theorem x_H4_n1 : va_up (x_HB4 R0 R1 R2 R3) 1 (fun _ => none) = x_HB4 R0 (fun _ => none) R2 R3 := by
  unfold x_HB4
  funext c
  by_cases h1 : c = 1
  · rw [h1, x_us, x_un (by decide), x_un (by decide), x_us]
  · rw [x_un h1]
    by_cases h3 : c = 47
    · rw [h3, x_us, x_us]
    · by_cases h2 : c = 46
      · rw [h2, x_un (by decide), x_us, x_un (by decide), x_us]
      · rw [x_un h3, x_un h2, x_un h1, x_un h3, x_un h2, x_un h1]
theorem x_H4_n2 : va_up (x_HB4 R0 R1 R2 R3) 46 (fun _ => none) = x_HB4 R0 R1 (fun _ => none) R3 := by
  unfold x_HB4
  rw [va_up_sw (show (47 : Nat) ≠ 46 by decide), x_up2]
theorem x_H4_n3 : va_up (x_HB4 R0 R1 R2 R3) 47 (fun _ => none) = x_HB4 R0 R1 R2 (fun _ => none) := by
  unfold x_HB4
  rw [x_up2]
end Ca5
