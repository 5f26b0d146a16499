/-! a new object of the model -/
theorem x_504 {F : Nat → Nat → Int32} : ∀ j, j < 4 → (x_up (x_up (x_up (x_up F 504 0 (-1)) 504 1 (-1)) 504 2 (-1)) 504 3 (-1)) 504 j = -1 := by
  intro j hj
  have hj4 : j = 0 ∨ j = 1 ∨ j = 2 ∨ j = 3 := by omega
  rcases hj4 with rfl | rfl | rfl | rfl <;> rfl
section Ca7
variable {f : Nat → Nat → Int32} {g : Nat → Nat → Int64} {r t : Nat} {dm : List Nat} {n d : Nat}
theorem m_initModel (hf0 : f 500 = fun _ => 0) (hg0 : g 500 = fun _ => 0) (hn : ∀ k, 501 ≤ k → k ≤ 517 → k ∉ dm) : x_Ct 174 (d + 2) [.ref 500] (f, g, va_up (x_HR r t) 500 (fun _ => none), dm, 501) (fun z h' => z = none ∧ ∃ F G, h' = (F, G, x_HR r t, dm ++ [501] ++ [502] ++ [503] ++ [504] ++ [505] ++ [506] ++ [507] ++ [508] ++ [509] ++ [510] ++ [511] ++ [512] ++ [513] ++ [514] ++ [515] ++ [516] ++ [517], 518) ∧ (∀ c, c < 500 → F c = f c ∧ G c = g c) ∧ F 500 = va_up (va_up (fun _ => 0) 16 (-1)) 17 (-1) ∧ G 500 = va_up (fun _ => 0) 4 1 ∧ F 501 = y_pln (fun _ => 0) 0 ∧ G 502 = (fun _ => 0) ∧ F 503 = (fun _ => 0) ∧ (∀ j, j < 4 → F 504 j = -1) ∧ G 505 = (fun _ => 0) ∧ F 506 = (fun _ => 0)) := by
  obtain ⟨Po, hPo⟩ : ∃ Po : Option Value → xH → Prop, Po = (fun z h' => z = none ∧ ∃ F G, h' = (F, G, x_HR r t, dm ++ [501] ++ [502] ++ [503] ++ [504] ++ [505] ++ [506] ++ [507] ++ [508] ++ [509] ++ [510] ++ [511] ++ [512] ++ [513] ++ [514] ++ [515] ++ [516] ++ [517], 518) ∧ (∀ c, c < 500 → F c = f c ∧ G c = g c) ∧ F 500 = va_up (va_up (fun _ => 0) 16 (-1)) 17 (-1) ∧ G 500 = va_up (fun _ => 0) 4 1 ∧ F 501 = y_pln (fun _ => 0) 0 ∧ G 502 = (fun _ => 0) ∧ F 503 = (fun _ => 0) ∧ (∀ j, j < 4 → F 504 j = -1) ∧ G 505 = (fun _ => 0) ∧ F 506 = (fun _ => 0)) := ⟨_, rfl⟩
  rw [← hPo]
  have hrow : (va_up (va_up (va_up (va_up (va_up (va_up (va_up (va_up (va_up (va_up (va_up (va_up (va_up (va_up (va_up (va_up (va_up (fun _ => none) 0 (some 501)) 1 (some 502)) 5 (some 503)) 6 (some 504)) 7 (some 505)) 8 (some 506)) 9 (some 507)) 21 (some 508)) 24 (some 509)) 25 (some 510)) 26 (some 511)) 28 (some 512)) 29 (some 513)) 30 (some 514)) 34 (some 515)) 35 (some 516)) 36 (some 517)) = x_HR r t 500 := by
    funext b
    show _ = x_HM b
    by_cases b36 : b = 36
    · subst b36
      rfl
    rw [x_un b36]
    by_cases b35 : b = 35
    · subst b35
      rfl
    rw [x_un b35]
    by_cases b34 : b = 34
    · subst b34
      rfl
    rw [x_un b34]
    by_cases b30 : b = 30
    · subst b30
      rfl
    rw [x_un b30]
    by_cases b29 : b = 29
    · subst b29
      rfl
    rw [x_un b29]
    by_cases b28 : b = 28
    · subst b28
      rfl
    rw [x_un b28]
    by_cases b26 : b = 26
    · subst b26
      rfl
    rw [x_un b26]
    by_cases b25 : b = 25
    · subst b25
      rfl
    rw [x_un b25]
    by_cases b24 : b = 24
    · subst b24
      rfl
    rw [x_un b24]
    by_cases b21 : b = 21
    · subst b21
      rfl
    rw [x_un b21]
    by_cases b9 : b = 9
    · subst b9
      rfl
    rw [x_un b9]
    by_cases b8 : b = 8
    · subst b8
      rfl
    rw [x_un b8]
    by_cases b7 : b = 7
    · subst b7
      rfl
    rw [x_un b7]
    by_cases b6 : b = 6
    · subst b6
      rfl
    rw [x_un b6]
    by_cases b5 : b = 5
    · subst b5
      rfl
    rw [x_un b5]
    by_cases b1 : b = 1
    · subst b1
      rfl
    rw [x_un b1]
    by_cases b0 : b = 0
    · subst b0
      rfl
    rw [x_un b0]
    unfold x_HM
    split <;> first | rfl | (exfalso; omega)
  have s17 : ∀ F G, (∀ c, c < 500 → F c = f c ∧ G c = g c) → F 500 = va_up (va_up (fun _ => 0) 16 (-1)) 17 (-1) → G 500 = va_up (fun _ => 0) 4 1 → F 501 = (fun _ => 0) → G 502 = (fun _ => 0) → F 503 = (fun _ => 0) → (∀ j, j < 4 → F 504 j = -1) → G 505 = (fun _ => 0) → F 506 = (fun _ => 0) → x_J 174 (d + 2) Po 168 [some (.ref 500)] [] (F, G, va_up (x_HR r t) 500 (va_up (va_up (va_up (va_up (va_up (va_up (va_up (va_up (va_up (va_up (va_up (va_up (va_up (va_up (va_up (va_up (va_up (fun _ => none) 0 (some 501)) 1 (some 502)) 5 (some 503)) 6 (some 504)) 7 (some 505)) 8 (some 506)) 9 (some 507)) 21 (some 508)) 24 (some 509)) 25 (some 510)) 26 (some 511)) 28 (some 512)) 29 (some 513)) 30 (some 514)) 34 (some 515)) 35 (some 516)) 36 (some 517)), dm ++ [501] ++ [502] ++ [503] ++ [504] ++ [505] ++ [506] ++ [507] ++ [508] ++ [509] ++ [510] ++ [511] ++ [512] ++ [513] ++ [514] ++ [515] ++ [516] ++ [517], 518) 17 11409 := by
    intro F G h0 h1 h2 h3 h4 h5 h6 h7 h8
    rw [x_row_f hrow]
    refine x_wp_ok ok174 [] 6 ?_
    refine Exists.intro _ (And.intro (m_plain (b := 0) (by decide)) (And.intro (And.intro (Nat.le_of_ble_eq_true rfl) (Nat.le_of_ble_eq_true rfl)) (fun zq h' hpo => ?_)))
    obtain ⟨rfl, rfl⟩ := hpo
    refine And.intro ?_ ⟨trivial, Nat.le_of_ble_eq_true rfl, Nat.le_of_ble_eq_true rfl⟩
    rw [hPo]
    refine ⟨rfl, _, G, rfl, fun c hc => ⟨by rw [x_un (by omega)]; exact (h0 c hc).1, (h0 c hc).2⟩, ?_, h2, ?_, h4, ?_, fun j hj => ?_, h7, ?_⟩
    · rw [x_un (by decide)]; exact h1
    · rw [x_us, h3]
    · rw [x_un (by decide)]; exact h5
    · rw [x_un (by decide)]; exact h6 j hj
    · rw [x_un (by decide)]; exact h8
  have s16 : ∀ F G, (∀ c, c < 500 → F c = f c ∧ G c = g c) → F 500 = va_up (va_up (fun _ => 0) 16 (-1)) 17 (-1) → G 500 = va_up (fun _ => 0) 4 1 → F 501 = (fun _ => 0) → G 502 = (fun _ => 0) → F 503 = (fun _ => 0) → (∀ j, j < 4 → F 504 j = -1) → G 505 = (fun _ => 0) → F 506 = (fun _ => 0) → x_J 174 (d + 2) Po 161 [some (.ref 500)] [] (F, G, va_up (x_HR r t) 500 (va_up (va_up (va_up (va_up (va_up (va_up (va_up (va_up (va_up (va_up (va_up (va_up (va_up (va_up (va_up (va_up (fun _ => none) 0 (some 501)) 1 (some 502)) 5 (some 503)) 6 (some 504)) 7 (some 505)) 8 (some 506)) 9 (some 507)) 21 (some 508)) 24 (some 509)) 25 (some 510)) 26 (some 511)) 28 (some 512)) 29 (some 513)) 30 (some 514)) 34 (some 515)) 35 (some 516)), dm ++ [501] ++ [502] ++ [503] ++ [504] ++ [505] ++ [506] ++ [507] ++ [508] ++ [509] ++ [510] ++ [511] ++ [512] ++ [513] ++ [514] ++ [515] ++ [516], 517) 16 11404 := by
    intro F G h0 h1 h2 h3 h4 h5 h6 h7 h8
    refine x_wp_ok ok174 [168] 6 ?_
    refine And.intro ⟨by decide, show x_SH 517 = (100, 5) by decide +kernel, (x_nin (x_nin (x_nin (x_nin (x_nin (x_nin (x_nin (x_nin (x_nin (x_nin (x_nin (x_nin (x_nin (x_nin (x_nin (x_nin (hn 517 (by decide) (by decide)) (show (517 : Nat) ≠ 501 by decide)) (show (517 : Nat) ≠ 502 by decide)) (show (517 : Nat) ≠ 503 by decide)) (show (517 : Nat) ≠ 504 by decide)) (show (517 : Nat) ≠ 505 by decide)) (show (517 : Nat) ≠ 506 by decide)) (show (517 : Nat) ≠ 507 by decide)) (show (517 : Nat) ≠ 508 by decide)) (show (517 : Nat) ≠ 509 by decide)) (show (517 : Nat) ≠ 510 by decide)) (show (517 : Nat) ≠ 511 by decide)) (show (517 : Nat) ≠ 512 by decide)) (show (517 : Nat) ≠ 513 by decide)) (show (517 : Nat) ≠ 514 by decide)) (show (517 : Nat) ≠ 515 by decide)) (show (517 : Nat) ≠ 516 by decide)), show (517 : Nat) < 1000 by decide, by decide⟩ ?_
    refine And.intro ⟨show 16 + 1 ≤ x_mc 174 by decide, show 11404 + 5 ≤ x_ms 174 by decide⟩ ?_
    have e := s17 (va_up F 517 (fun _ => 0)) (va_up G 517 (fun _ => 0)) (fun c hc => ⟨by rw [x_un (by omega)]; exact (h0 c hc).1, by rw [x_un (by omega)]; exact (h0 c hc).2⟩) (by rw [x_un (by decide)]; exact h1) (by rw [x_un (by decide)]; exact h2) (by rw [x_un (by decide)]; exact h3) (by rw [x_un (by decide)]; exact h4) (by rw [x_un (by decide)]; exact h5) (fun j hj => by rw [x_un (by decide)]; exact h6 j hj) (by rw [x_un (by decide)]; exact h7) (by rw [x_un (by decide)]; exact h8)
    rw [← x_vu_up', ← x_row_a (a := 517) (ρ := x_HR r t) (L := 500) (u := (va_up (va_up (va_up (va_up (va_up (va_up (va_up (va_up (va_up (va_up (va_up (va_up (va_up (va_up (va_up (va_up (fun _ => none) 0 (some 501)) 1 (some 502)) 5 (some 503)) 6 (some 504)) 7 (some 505)) 8 (some 506)) 9 (some 507)) 21 (some 508)) 24 (some 509)) 25 (some 510)) 26 (some 511)) 28 (some 512)) 29 (some 513)) 30 (some 514)) 34 (some 515)) 35 (some 516))) rfl (by decide)] at e
    exact e
  have s15 : ∀ F G, (∀ c, c < 500 → F c = f c ∧ G c = g c) → F 500 = va_up (va_up (fun _ => 0) 16 (-1)) 17 (-1) → G 500 = va_up (fun _ => 0) 4 1 → F 501 = (fun _ => 0) → G 502 = (fun _ => 0) → F 503 = (fun _ => 0) → (∀ j, j < 4 → F 504 j = -1) → G 505 = (fun _ => 0) → F 506 = (fun _ => 0) → x_J 174 (d + 2) Po 154 [some (.ref 500)] [] (F, G, va_up (x_HR r t) 500 (va_up (va_up (va_up (va_up (va_up (va_up (va_up (va_up (va_up (va_up (va_up (va_up (va_up (va_up (va_up (fun _ => none) 0 (some 501)) 1 (some 502)) 5 (some 503)) 6 (some 504)) 7 (some 505)) 8 (some 506)) 9 (some 507)) 21 (some 508)) 24 (some 509)) 25 (some 510)) 26 (some 511)) 28 (some 512)) 29 (some 513)) 30 (some 514)) 34 (some 515)), dm ++ [501] ++ [502] ++ [503] ++ [504] ++ [505] ++ [506] ++ [507] ++ [508] ++ [509] ++ [510] ++ [511] ++ [512] ++ [513] ++ [514] ++ [515], 516) 15 11399 := by
    intro F G h0 h1 h2 h3 h4 h5 h6 h7 h8
    refine x_wp_ok ok174 [161] 6 ?_
    refine And.intro ⟨by decide, show x_SH 516 = (100, 5) by decide +kernel, (x_nin (x_nin (x_nin (x_nin (x_nin (x_nin (x_nin (x_nin (x_nin (x_nin (x_nin (x_nin (x_nin (x_nin (x_nin (hn 516 (by decide) (by decide)) (show (516 : Nat) ≠ 501 by decide)) (show (516 : Nat) ≠ 502 by decide)) (show (516 : Nat) ≠ 503 by decide)) (show (516 : Nat) ≠ 504 by decide)) (show (516 : Nat) ≠ 505 by decide)) (show (516 : Nat) ≠ 506 by decide)) (show (516 : Nat) ≠ 507 by decide)) (show (516 : Nat) ≠ 508 by decide)) (show (516 : Nat) ≠ 509 by decide)) (show (516 : Nat) ≠ 510 by decide)) (show (516 : Nat) ≠ 511 by decide)) (show (516 : Nat) ≠ 512 by decide)) (show (516 : Nat) ≠ 513 by decide)) (show (516 : Nat) ≠ 514 by decide)) (show (516 : Nat) ≠ 515 by decide)), show (516 : Nat) < 1000 by decide, by decide⟩ ?_
    refine And.intro ⟨show 15 + 1 ≤ x_mc 174 by decide, show 11399 + 5 ≤ x_ms 174 by decide⟩ ?_
    have e := s16 (va_up F 516 (fun _ => 0)) (va_up G 516 (fun _ => 0)) (fun c hc => ⟨by rw [x_un (by omega)]; exact (h0 c hc).1, by rw [x_un (by omega)]; exact (h0 c hc).2⟩) (by rw [x_un (by decide)]; exact h1) (by rw [x_un (by decide)]; exact h2) (by rw [x_un (by decide)]; exact h3) (by rw [x_un (by decide)]; exact h4) (by rw [x_un (by decide)]; exact h5) (fun j hj => by rw [x_un (by decide)]; exact h6 j hj) (by rw [x_un (by decide)]; exact h7) (by rw [x_un (by decide)]; exact h8)
    rw [← x_vu_up', ← x_row_a (a := 516) (ρ := x_HR r t) (L := 500) (u := (va_up (va_up (va_up (va_up (va_up (va_up (va_up (va_up (va_up (va_up (va_up (va_up (va_up (va_up (va_up (fun _ => none) 0 (some 501)) 1 (some 502)) 5 (some 503)) 6 (some 504)) 7 (some 505)) 8 (some 506)) 9 (some 507)) 21 (some 508)) 24 (some 509)) 25 (some 510)) 26 (some 511)) 28 (some 512)) 29 (some 513)) 30 (some 514)) 34 (some 515))) rfl (by decide)] at e
    exact e
  have s14 : ∀ F G, (∀ c, c < 500 → F c = f c ∧ G c = g c) → F 500 = va_up (va_up (fun _ => 0) 16 (-1)) 17 (-1) → G 500 = va_up (fun _ => 0) 4 1 → F 501 = (fun _ => 0) → G 502 = (fun _ => 0) → F 503 = (fun _ => 0) → (∀ j, j < 4 → F 504 j = -1) → G 505 = (fun _ => 0) → F 506 = (fun _ => 0) → x_J 174 (d + 2) Po 146 [some (.ref 500)] [] (F, G, va_up (x_HR r t) 500 (va_up (va_up (va_up (va_up (va_up (va_up (va_up (va_up (va_up (va_up (va_up (va_up (va_up (va_up (fun _ => none) 0 (some 501)) 1 (some 502)) 5 (some 503)) 6 (some 504)) 7 (some 505)) 8 (some 506)) 9 (some 507)) 21 (some 508)) 24 (some 509)) 25 (some 510)) 26 (some 511)) 28 (some 512)) 29 (some 513)) 30 (some 514)), dm ++ [501] ++ [502] ++ [503] ++ [504] ++ [505] ++ [506] ++ [507] ++ [508] ++ [509] ++ [510] ++ [511] ++ [512] ++ [513] ++ [514], 515) 14 11319 := by
    intro F G h0 h1 h2 h3 h4 h5 h6 h7 h8
    refine x_wp_ok ok174 [154] 6 ?_
    refine And.intro ⟨by decide, show x_SH 515 = (100, 80) by decide +kernel, (x_nin (x_nin (x_nin (x_nin (x_nin (x_nin (x_nin (x_nin (x_nin (x_nin (x_nin (x_nin (x_nin (x_nin (hn 515 (by decide) (by decide)) (show (515 : Nat) ≠ 501 by decide)) (show (515 : Nat) ≠ 502 by decide)) (show (515 : Nat) ≠ 503 by decide)) (show (515 : Nat) ≠ 504 by decide)) (show (515 : Nat) ≠ 505 by decide)) (show (515 : Nat) ≠ 506 by decide)) (show (515 : Nat) ≠ 507 by decide)) (show (515 : Nat) ≠ 508 by decide)) (show (515 : Nat) ≠ 509 by decide)) (show (515 : Nat) ≠ 510 by decide)) (show (515 : Nat) ≠ 511 by decide)) (show (515 : Nat) ≠ 512 by decide)) (show (515 : Nat) ≠ 513 by decide)) (show (515 : Nat) ≠ 514 by decide)), show (515 : Nat) < 1000 by decide, by decide⟩ ?_
    refine And.intro ⟨show 14 + 1 ≤ x_mc 174 by decide, show 11319 + 80 ≤ x_ms 174 by decide⟩ ?_
    have e := s15 (va_up F 515 (fun _ => 0)) (va_up G 515 (fun _ => 0)) (fun c hc => ⟨by rw [x_un (by omega)]; exact (h0 c hc).1, by rw [x_un (by omega)]; exact (h0 c hc).2⟩) (by rw [x_un (by decide)]; exact h1) (by rw [x_un (by decide)]; exact h2) (by rw [x_un (by decide)]; exact h3) (by rw [x_un (by decide)]; exact h4) (by rw [x_un (by decide)]; exact h5) (fun j hj => by rw [x_un (by decide)]; exact h6 j hj) (by rw [x_un (by decide)]; exact h7) (by rw [x_un (by decide)]; exact h8)
    rw [← x_vu_up', ← x_row_a (a := 515) (ρ := x_HR r t) (L := 500) (u := (va_up (va_up (va_up (va_up (va_up (va_up (va_up (va_up (va_up (va_up (va_up (va_up (va_up (va_up (fun _ => none) 0 (some 501)) 1 (some 502)) 5 (some 503)) 6 (some 504)) 7 (some 505)) 8 (some 506)) 9 (some 507)) 21 (some 508)) 24 (some 509)) 25 (some 510)) 26 (some 511)) 28 (some 512)) 29 (some 513)) 30 (some 514))) rfl (by decide)] at e
    exact e
  have s13 : ∀ F G, (∀ c, c < 500 → F c = f c ∧ G c = g c) → F 500 = va_up (va_up (fun _ => 0) 16 (-1)) 17 (-1) → G 500 = va_up (fun _ => 0) 4 1 → F 501 = (fun _ => 0) → G 502 = (fun _ => 0) → F 503 = (fun _ => 0) → (∀ j, j < 4 → F 504 j = -1) → G 505 = (fun _ => 0) → F 506 = (fun _ => 0) → x_J 174 (d + 2) Po 139 [some (.ref 500)] [] (F, G, va_up (x_HR r t) 500 (va_up (va_up (va_up (va_up (va_up (va_up (va_up (va_up (va_up (va_up (va_up (va_up (va_up (fun _ => none) 0 (some 501)) 1 (some 502)) 5 (some 503)) 6 (some 504)) 7 (some 505)) 8 (some 506)) 9 (some 507)) 21 (some 508)) 24 (some 509)) 25 (some 510)) 26 (some 511)) 28 (some 512)) 29 (some 513)), dm ++ [501] ++ [502] ++ [503] ++ [504] ++ [505] ++ [506] ++ [507] ++ [508] ++ [509] ++ [510] ++ [511] ++ [512] ++ [513], 514) 13 11315 := by
    intro F G h0 h1 h2 h3 h4 h5 h6 h7 h8
    refine x_wp_ok ok174 [146] 6 ?_
    refine And.intro ⟨by decide, show x_SH 514 = (100, 4) by decide +kernel, (x_nin (x_nin (x_nin (x_nin (x_nin (x_nin (x_nin (x_nin (x_nin (x_nin (x_nin (x_nin (x_nin (hn 514 (by decide) (by decide)) (show (514 : Nat) ≠ 501 by decide)) (show (514 : Nat) ≠ 502 by decide)) (show (514 : Nat) ≠ 503 by decide)) (show (514 : Nat) ≠ 504 by decide)) (show (514 : Nat) ≠ 505 by decide)) (show (514 : Nat) ≠ 506 by decide)) (show (514 : Nat) ≠ 507 by decide)) (show (514 : Nat) ≠ 508 by decide)) (show (514 : Nat) ≠ 509 by decide)) (show (514 : Nat) ≠ 510 by decide)) (show (514 : Nat) ≠ 511 by decide)) (show (514 : Nat) ≠ 512 by decide)) (show (514 : Nat) ≠ 513 by decide)), show (514 : Nat) < 1000 by decide, by decide⟩ ?_
    refine And.intro ⟨show 13 + 1 ≤ x_mc 174 by decide, show 11315 + 4 ≤ x_ms 174 by decide⟩ ?_
    have e := s14 (va_up F 514 (fun _ => 0)) (va_up G 514 (fun _ => 0)) (fun c hc => ⟨by rw [x_un (by omega)]; exact (h0 c hc).1, by rw [x_un (by omega)]; exact (h0 c hc).2⟩) (by rw [x_un (by decide)]; exact h1) (by rw [x_un (by decide)]; exact h2) (by rw [x_un (by decide)]; exact h3) (by rw [x_un (by decide)]; exact h4) (by rw [x_un (by decide)]; exact h5) (fun j hj => by rw [x_un (by decide)]; exact h6 j hj) (by rw [x_un (by decide)]; exact h7) (by rw [x_un (by decide)]; exact h8)
    rw [← x_vu_up', ← x_row_a (a := 514) (ρ := x_HR r t) (L := 500) (u := (va_up (va_up (va_up (va_up (va_up (va_up (va_up (va_up (va_up (va_up (va_up (va_up (va_up (fun _ => none) 0 (some 501)) 1 (some 502)) 5 (some 503)) 6 (some 504)) 7 (some 505)) 8 (some 506)) 9 (some 507)) 21 (some 508)) 24 (some 509)) 25 (some 510)) 26 (some 511)) 28 (some 512)) 29 (some 513))) rfl (by decide)] at e
    exact e
  have s12 : ∀ F G, (∀ c, c < 500 → F c = f c ∧ G c = g c) → F 500 = va_up (va_up (fun _ => 0) 16 (-1)) 17 (-1) → G 500 = va_up (fun _ => 0) 4 1 → F 501 = (fun _ => 0) → G 502 = (fun _ => 0) → F 503 = (fun _ => 0) → (∀ j, j < 4 → F 504 j = -1) → G 505 = (fun _ => 0) → F 506 = (fun _ => 0) → x_J 174 (d + 2) Po 132 [some (.ref 500)] [] (F, G, va_up (x_HR r t) 500 (va_up (va_up (va_up (va_up (va_up (va_up (va_up (va_up (va_up (va_up (va_up (va_up (fun _ => none) 0 (some 501)) 1 (some 502)) 5 (some 503)) 6 (some 504)) 7 (some 505)) 8 (some 506)) 9 (some 507)) 21 (some 508)) 24 (some 509)) 25 (some 510)) 26 (some 511)) 28 (some 512)), dm ++ [501] ++ [502] ++ [503] ++ [504] ++ [505] ++ [506] ++ [507] ++ [508] ++ [509] ++ [510] ++ [511] ++ [512], 513) 12 11311 := by
    intro F G h0 h1 h2 h3 h4 h5 h6 h7 h8
    refine x_wp_ok ok174 [139] 6 ?_
    refine And.intro ⟨by decide, show x_SH 513 = (100, 4) by decide +kernel, (x_nin (x_nin (x_nin (x_nin (x_nin (x_nin (x_nin (x_nin (x_nin (x_nin (x_nin (x_nin (hn 513 (by decide) (by decide)) (show (513 : Nat) ≠ 501 by decide)) (show (513 : Nat) ≠ 502 by decide)) (show (513 : Nat) ≠ 503 by decide)) (show (513 : Nat) ≠ 504 by decide)) (show (513 : Nat) ≠ 505 by decide)) (show (513 : Nat) ≠ 506 by decide)) (show (513 : Nat) ≠ 507 by decide)) (show (513 : Nat) ≠ 508 by decide)) (show (513 : Nat) ≠ 509 by decide)) (show (513 : Nat) ≠ 510 by decide)) (show (513 : Nat) ≠ 511 by decide)) (show (513 : Nat) ≠ 512 by decide)), show (513 : Nat) < 1000 by decide, by decide⟩ ?_
    refine And.intro ⟨show 12 + 1 ≤ x_mc 174 by decide, show 11311 + 4 ≤ x_ms 174 by decide⟩ ?_
    have e := s13 (va_up F 513 (fun _ => 0)) (va_up G 513 (fun _ => 0)) (fun c hc => ⟨by rw [x_un (by omega)]; exact (h0 c hc).1, by rw [x_un (by omega)]; exact (h0 c hc).2⟩) (by rw [x_un (by decide)]; exact h1) (by rw [x_un (by decide)]; exact h2) (by rw [x_un (by decide)]; exact h3) (by rw [x_un (by decide)]; exact h4) (by rw [x_un (by decide)]; exact h5) (fun j hj => by rw [x_un (by decide)]; exact h6 j hj) (by rw [x_un (by decide)]; exact h7) (by rw [x_un (by decide)]; exact h8)
    rw [← x_vu_up', ← x_row_a (a := 513) (ρ := x_HR r t) (L := 500) (u := (va_up (va_up (va_up (va_up (va_up (va_up (va_up (va_up (va_up (va_up (va_up (va_up (fun _ => none) 0 (some 501)) 1 (some 502)) 5 (some 503)) 6 (some 504)) 7 (some 505)) 8 (some 506)) 9 (some 507)) 21 (some 508)) 24 (some 509)) 25 (some 510)) 26 (some 511)) 28 (some 512))) rfl (by decide)] at e
    exact e
  have s11 : ∀ F G, (∀ c, c < 500 → F c = f c ∧ G c = g c) → F 500 = va_up (va_up (fun _ => 0) 16 (-1)) 17 (-1) → G 500 = va_up (fun _ => 0) 4 1 → F 501 = (fun _ => 0) → G 502 = (fun _ => 0) → F 503 = (fun _ => 0) → (∀ j, j < 4 → F 504 j = -1) → G 505 = (fun _ => 0) → F 506 = (fun _ => 0) → x_J 174 (d + 2) Po 125 [some (.ref 500)] [] (F, G, va_up (x_HR r t) 500 (va_up (va_up (va_up (va_up (va_up (va_up (va_up (va_up (va_up (va_up (va_up (fun _ => none) 0 (some 501)) 1 (some 502)) 5 (some 503)) 6 (some 504)) 7 (some 505)) 8 (some 506)) 9 (some 507)) 21 (some 508)) 24 (some 509)) 25 (some 510)) 26 (some 511)), dm ++ [501] ++ [502] ++ [503] ++ [504] ++ [505] ++ [506] ++ [507] ++ [508] ++ [509] ++ [510] ++ [511], 512) 11 11307 := by
    intro F G h0 h1 h2 h3 h4 h5 h6 h7 h8
    refine x_wp_ok ok174 [132] 6 ?_
    refine And.intro ⟨by decide, show x_SH 512 = (100, 4) by decide +kernel, (x_nin (x_nin (x_nin (x_nin (x_nin (x_nin (x_nin (x_nin (x_nin (x_nin (x_nin (hn 512 (by decide) (by decide)) (show (512 : Nat) ≠ 501 by decide)) (show (512 : Nat) ≠ 502 by decide)) (show (512 : Nat) ≠ 503 by decide)) (show (512 : Nat) ≠ 504 by decide)) (show (512 : Nat) ≠ 505 by decide)) (show (512 : Nat) ≠ 506 by decide)) (show (512 : Nat) ≠ 507 by decide)) (show (512 : Nat) ≠ 508 by decide)) (show (512 : Nat) ≠ 509 by decide)) (show (512 : Nat) ≠ 510 by decide)) (show (512 : Nat) ≠ 511 by decide)), show (512 : Nat) < 1000 by decide, by decide⟩ ?_
    refine And.intro ⟨show 11 + 1 ≤ x_mc 174 by decide, show 11307 + 4 ≤ x_ms 174 by decide⟩ ?_
    have e := s12 (va_up F 512 (fun _ => 0)) (va_up G 512 (fun _ => 0)) (fun c hc => ⟨by rw [x_un (by omega)]; exact (h0 c hc).1, by rw [x_un (by omega)]; exact (h0 c hc).2⟩) (by rw [x_un (by decide)]; exact h1) (by rw [x_un (by decide)]; exact h2) (by rw [x_un (by decide)]; exact h3) (by rw [x_un (by decide)]; exact h4) (by rw [x_un (by decide)]; exact h5) (fun j hj => by rw [x_un (by decide)]; exact h6 j hj) (by rw [x_un (by decide)]; exact h7) (by rw [x_un (by decide)]; exact h8)
    rw [← x_vu_up', ← x_row_a (a := 512) (ρ := x_HR r t) (L := 500) (u := (va_up (va_up (va_up (va_up (va_up (va_up (va_up (va_up (va_up (va_up (va_up (fun _ => none) 0 (some 501)) 1 (some 502)) 5 (some 503)) 6 (some 504)) 7 (some 505)) 8 (some 506)) 9 (some 507)) 21 (some 508)) 24 (some 509)) 25 (some 510)) 26 (some 511))) rfl (by decide)] at e
    exact e
  have s10 : ∀ F G, (∀ c, c < 500 → F c = f c ∧ G c = g c) → F 500 = va_up (va_up (fun _ => 0) 16 (-1)) 17 (-1) → G 500 = va_up (fun _ => 0) 4 1 → F 501 = (fun _ => 0) → G 502 = (fun _ => 0) → F 503 = (fun _ => 0) → (∀ j, j < 4 → F 504 j = -1) → G 505 = (fun _ => 0) → F 506 = (fun _ => 0) → x_J 174 (d + 2) Po 116 [some (.ref 500)] [] (F, G, va_up (x_HR r t) 500 (va_up (va_up (va_up (va_up (va_up (va_up (va_up (va_up (va_up (va_up (fun _ => none) 0 (some 501)) 1 (some 502)) 5 (some 503)) 6 (some 504)) 7 (some 505)) 8 (some 506)) 9 (some 507)) 21 (some 508)) 24 (some 509)) 25 (some 510)), dm ++ [501] ++ [502] ++ [503] ++ [504] ++ [505] ++ [506] ++ [507] ++ [508] ++ [509] ++ [510], 511) 10 10307 := by
    intro F G h0 h1 h2 h3 h4 h5 h6 h7 h8
    refine x_wp_ok ok174 [125] 6 ?_
    refine And.intro ⟨by decide, show x_SH 511 = (101, 1000) by decide +kernel, (x_nin (x_nin (x_nin (x_nin (x_nin (x_nin (x_nin (x_nin (x_nin (x_nin (hn 511 (by decide) (by decide)) (show (511 : Nat) ≠ 501 by decide)) (show (511 : Nat) ≠ 502 by decide)) (show (511 : Nat) ≠ 503 by decide)) (show (511 : Nat) ≠ 504 by decide)) (show (511 : Nat) ≠ 505 by decide)) (show (511 : Nat) ≠ 506 by decide)) (show (511 : Nat) ≠ 507 by decide)) (show (511 : Nat) ≠ 508 by decide)) (show (511 : Nat) ≠ 509 by decide)) (show (511 : Nat) ≠ 510 by decide)), show (511 : Nat) < 1000 by decide, by decide⟩ ?_
    refine And.intro ⟨show 10 + 1 ≤ x_mc 174 by decide, show 10307 + 1000 ≤ x_ms 174 by decide⟩ ?_
    have e := s11 (va_up F 511 (fun _ => 0)) (va_up G 511 (fun _ => 0)) (fun c hc => ⟨by rw [x_un (by omega)]; exact (h0 c hc).1, by rw [x_un (by omega)]; exact (h0 c hc).2⟩) (by rw [x_un (by decide)]; exact h1) (by rw [x_un (by decide)]; exact h2) (by rw [x_un (by decide)]; exact h3) (by rw [x_un (by decide)]; exact h4) (by rw [x_un (by decide)]; exact h5) (fun j hj => by rw [x_un (by decide)]; exact h6 j hj) (by rw [x_un (by decide)]; exact h7) (by rw [x_un (by decide)]; exact h8)
    rw [← x_vu_up', ← x_row_a (a := 511) (ρ := x_HR r t) (L := 500) (u := (va_up (va_up (va_up (va_up (va_up (va_up (va_up (va_up (va_up (va_up (fun _ => none) 0 (some 501)) 1 (some 502)) 5 (some 503)) 6 (some 504)) 7 (some 505)) 8 (some 506)) 9 (some 507)) 21 (some 508)) 24 (some 509)) 25 (some 510))) rfl (by decide)] at e
    exact e
  have s9 : ∀ F G, (∀ c, c < 500 → F c = f c ∧ G c = g c) → F 500 = va_up (va_up (fun _ => 0) 16 (-1)) 17 (-1) → G 500 = va_up (fun _ => 0) 4 1 → F 501 = (fun _ => 0) → G 502 = (fun _ => 0) → F 503 = (fun _ => 0) → (∀ j, j < 4 → F 504 j = -1) → G 505 = (fun _ => 0) → F 506 = (fun _ => 0) → x_J 174 (d + 2) Po 109 [some (.ref 500)] [] (F, G, va_up (x_HR r t) 500 (va_up (va_up (va_up (va_up (va_up (va_up (va_up (va_up (va_up (fun _ => none) 0 (some 501)) 1 (some 502)) 5 (some 503)) 6 (some 504)) 7 (some 505)) 8 (some 506)) 9 (some 507)) 21 (some 508)) 24 (some 509)), dm ++ [501] ++ [502] ++ [503] ++ [504] ++ [505] ++ [506] ++ [507] ++ [508] ++ [509], 510) 9 10303 := by
    intro F G h0 h1 h2 h3 h4 h5 h6 h7 h8
    refine x_wp_ok ok174 [116] 6 ?_
    refine And.intro ⟨by decide, show x_SH 510 = (100, 4) by decide +kernel, (x_nin (x_nin (x_nin (x_nin (x_nin (x_nin (x_nin (x_nin (x_nin (hn 510 (by decide) (by decide)) (show (510 : Nat) ≠ 501 by decide)) (show (510 : Nat) ≠ 502 by decide)) (show (510 : Nat) ≠ 503 by decide)) (show (510 : Nat) ≠ 504 by decide)) (show (510 : Nat) ≠ 505 by decide)) (show (510 : Nat) ≠ 506 by decide)) (show (510 : Nat) ≠ 507 by decide)) (show (510 : Nat) ≠ 508 by decide)) (show (510 : Nat) ≠ 509 by decide)), show (510 : Nat) < 1000 by decide, by decide⟩ ?_
    refine And.intro ⟨show 9 + 1 ≤ x_mc 174 by decide, show 10303 + 4 ≤ x_ms 174 by decide⟩ ?_
    have e := s10 (va_up F 510 (fun _ => 0)) (va_up G 510 (fun _ => 0)) (fun c hc => ⟨by rw [x_un (by omega)]; exact (h0 c hc).1, by rw [x_un (by omega)]; exact (h0 c hc).2⟩) (by rw [x_un (by decide)]; exact h1) (by rw [x_un (by decide)]; exact h2) (by rw [x_un (by decide)]; exact h3) (by rw [x_un (by decide)]; exact h4) (by rw [x_un (by decide)]; exact h5) (fun j hj => by rw [x_un (by decide)]; exact h6 j hj) (by rw [x_un (by decide)]; exact h7) (by rw [x_un (by decide)]; exact h8)
    rw [← x_vu_up', ← x_row_a (a := 510) (ρ := x_HR r t) (L := 500) (u := (va_up (va_up (va_up (va_up (va_up (va_up (va_up (va_up (va_up (fun _ => none) 0 (some 501)) 1 (some 502)) 5 (some 503)) 6 (some 504)) 7 (some 505)) 8 (some 506)) 9 (some 507)) 21 (some 508)) 24 (some 509))) rfl (by decide)] at e
    exact e
  have s8 : ∀ F G, (∀ c, c < 500 → F c = f c ∧ G c = g c) → F 500 = va_up (va_up (fun _ => 0) 16 (-1)) 17 (-1) → G 500 = va_up (fun _ => 0) 4 1 → F 501 = (fun _ => 0) → G 502 = (fun _ => 0) → F 503 = (fun _ => 0) → (∀ j, j < 4 → F 504 j = -1) → G 505 = (fun _ => 0) → F 506 = (fun _ => 0) → x_J 174 (d + 2) Po 100 [some (.ref 500)] [] (F, G, va_up (x_HR r t) 500 (va_up (va_up (va_up (va_up (va_up (va_up (va_up (va_up (fun _ => none) 0 (some 501)) 1 (some 502)) 5 (some 503)) 6 (some 504)) 7 (some 505)) 8 (some 506)) 9 (some 507)) 21 (some 508)), dm ++ [501] ++ [502] ++ [503] ++ [504] ++ [505] ++ [506] ++ [507] ++ [508], 509) 8 5303 := by
    intro F G h0 h1 h2 h3 h4 h5 h6 h7 h8
    refine x_wp_ok ok174 [109] 6 ?_
    refine And.intro ⟨by decide, show x_SH 509 = (100, 5000) by decide +kernel, (x_nin (x_nin (x_nin (x_nin (x_nin (x_nin (x_nin (x_nin (hn 509 (by decide) (by decide)) (show (509 : Nat) ≠ 501 by decide)) (show (509 : Nat) ≠ 502 by decide)) (show (509 : Nat) ≠ 503 by decide)) (show (509 : Nat) ≠ 504 by decide)) (show (509 : Nat) ≠ 505 by decide)) (show (509 : Nat) ≠ 506 by decide)) (show (509 : Nat) ≠ 507 by decide)) (show (509 : Nat) ≠ 508 by decide)), show (509 : Nat) < 1000 by decide, by decide⟩ ?_
    refine And.intro ⟨show 8 + 1 ≤ x_mc 174 by decide, show 5303 + 5000 ≤ x_ms 174 by decide⟩ ?_
    have e := s9 (va_up F 509 (fun _ => 0)) (va_up G 509 (fun _ => 0)) (fun c hc => ⟨by rw [x_un (by omega)]; exact (h0 c hc).1, by rw [x_un (by omega)]; exact (h0 c hc).2⟩) (by rw [x_un (by decide)]; exact h1) (by rw [x_un (by decide)]; exact h2) (by rw [x_un (by decide)]; exact h3) (by rw [x_un (by decide)]; exact h4) (by rw [x_un (by decide)]; exact h5) (fun j hj => by rw [x_un (by decide)]; exact h6 j hj) (by rw [x_un (by decide)]; exact h7) (by rw [x_un (by decide)]; exact h8)
    rw [← x_vu_up', ← x_row_a (a := 509) (ρ := x_HR r t) (L := 500) (u := (va_up (va_up (va_up (va_up (va_up (va_up (va_up (va_up (fun _ => none) 0 (some 501)) 1 (some 502)) 5 (some 503)) 6 (some 504)) 7 (some 505)) 8 (some 506)) 9 (some 507)) 21 (some 508))) rfl (by decide)] at e
    exact e
  have s7 : ∀ F G, (∀ c, c < 500 → F c = f c ∧ G c = g c) → F 500 = (fun _ => 0) → G 500 = va_up (fun _ => 0) 4 1 → F 501 = (fun _ => 0) → G 502 = (fun _ => 0) → F 503 = (fun _ => 0) → (∀ j, j < 4 → F 504 j = -1) → G 505 = (fun _ => 0) → F 506 = (fun _ => 0) → x_J 174 (d + 2) Po 83 [some (.ref 500)] [] (F, G, va_up (x_HR r t) 500 (va_up (va_up (va_up (va_up (va_up (va_up (va_up (fun _ => none) 0 (some 501)) 1 (some 502)) 5 (some 503)) 6 (some 504)) 7 (some 505)) 8 (some 506)) 9 (some 507)), dm ++ [501] ++ [502] ++ [503] ++ [504] ++ [505] ++ [506] ++ [507], 508) 7 5300 := by
    intro F G h0 h1 h2 h3 h4 h5 h6 h7 h8
    refine x_wp_ok ok174 [100] 6 ?_
    refine And.intro ⟨by decide, show x_SH 508 = (100, 3) by decide +kernel, (x_nin (x_nin (x_nin (x_nin (x_nin (x_nin (x_nin (hn 508 (by decide) (by decide)) (show (508 : Nat) ≠ 501 by decide)) (show (508 : Nat) ≠ 502 by decide)) (show (508 : Nat) ≠ 503 by decide)) (show (508 : Nat) ≠ 504 by decide)) (show (508 : Nat) ≠ 505 by decide)) (show (508 : Nat) ≠ 506 by decide)) (show (508 : Nat) ≠ 507 by decide)), show (508 : Nat) < 1000 by decide, by decide⟩ ?_
    refine And.intro ⟨show 7 + 1 ≤ x_mc 174 by decide, show 5300 + 3 ≤ x_ms 174 by decide⟩ ?_
    have e := s8 (va_up (x_up (x_up F 500 16 (-1)) 500 17 (-1)) 508 (fun _ => 0)) (va_up G 508 (fun _ => 0)) (fun c hc => ⟨by rw [x_un (by omega), x_up_k (by omega), x_up_k (by omega)]; exact (h0 c hc).1, by rw [x_un (by omega)]; exact (h0 c hc).2⟩) (by rw [x_un (by decide), x_up_c, x_up_c, h1]) (by rw [x_un (by decide)]; exact h2) (by rw [x_un (by decide), x_up_k (by decide), x_up_k (by decide)]; exact h3) (by rw [x_un (by decide)]; exact h4) (by rw [x_un (by decide), x_up_k (by decide), x_up_k (by decide)]; exact h5) (fun j hj => by rw [x_un (by decide), x_up_k (by decide), x_up_k (by decide)]; exact h6 j hj) (by rw [x_un (by decide)]; exact h7) (by rw [x_un (by decide), x_up_k (by decide), x_up_k (by decide)]; exact h8)
    rw [← x_vu_up', ← x_row_a (a := 508) (ρ := x_HR r t) (L := 500) (u := (va_up (va_up (va_up (va_up (va_up (va_up (va_up (fun _ => none) 0 (some 501)) 1 (some 502)) 5 (some 503)) 6 (some 504)) 7 (some 505)) 8 (some 506)) 9 (some 507))) rfl (by decide)] at e
    exact e
  have s6 : ∀ F G, (∀ c, c < 500 → F c = f c ∧ G c = g c) → F 500 = (fun _ => 0) → G 500 = va_up (fun _ => 0) 4 1 → F 501 = (fun _ => 0) → G 502 = (fun _ => 0) → F 503 = (fun _ => 0) → (∀ j, j < 4 → F 504 j = -1) → G 505 = (fun _ => 0) → F 506 = (fun _ => 0) → x_J 174 (d + 2) Po 74 [some (.ref 500)] [] (F, G, va_up (x_HR r t) 500 (va_up (va_up (va_up (va_up (va_up (va_up (fun _ => none) 0 (some 501)) 1 (some 502)) 5 (some 503)) 6 (some 504)) 7 (some 505)) 8 (some 506)), dm ++ [501] ++ [502] ++ [503] ++ [504] ++ [505] ++ [506], 507) 6 4400 := by
    intro F G h0 h1 h2 h3 h4 h5 h6 h7 h8
    refine x_wp_ok ok174 [83] 6 ?_
    refine And.intro ⟨by decide, show x_SH 507 = (102, 900) by decide +kernel, (x_nin (x_nin (x_nin (x_nin (x_nin (x_nin (hn 507 (by decide) (by decide)) (show (507 : Nat) ≠ 501 by decide)) (show (507 : Nat) ≠ 502 by decide)) (show (507 : Nat) ≠ 503 by decide)) (show (507 : Nat) ≠ 504 by decide)) (show (507 : Nat) ≠ 505 by decide)) (show (507 : Nat) ≠ 506 by decide)), show (507 : Nat) < 1000 by decide, by decide⟩ ?_
    refine And.intro ⟨show 6 + 1 ≤ x_mc 174 by decide, show 4400 + 900 ≤ x_ms 174 by decide⟩ ?_
    have e := s7 (va_up F 507 (fun _ => 0)) (va_up G 507 (fun _ => 0)) (fun c hc => ⟨by rw [x_un (by omega)]; exact (h0 c hc).1, by rw [x_un (by omega)]; exact (h0 c hc).2⟩) (by rw [x_un (by decide)]; exact h1) (by rw [x_un (by decide)]; exact h2) (by rw [x_un (by decide)]; exact h3) (by rw [x_un (by decide)]; exact h4) (by rw [x_un (by decide)]; exact h5) (fun j hj => by rw [x_un (by decide)]; exact h6 j hj) (by rw [x_un (by decide)]; exact h7) (by rw [x_un (by decide)]; exact h8)
    rw [← x_vu_up', ← x_row_a (a := 507) (ρ := x_HR r t) (L := 500) (u := (va_up (va_up (va_up (va_up (va_up (va_up (fun _ => none) 0 (some 501)) 1 (some 502)) 5 (some 503)) 6 (some 504)) 7 (some 505)) 8 (some 506))) rfl (by decide)] at e
    exact e
  have s5 : ∀ F G, (∀ c, c < 500 → F c = f c ∧ G c = g c) → F 500 = (fun _ => 0) → G 500 = va_up (fun _ => 0) 4 1 → F 501 = (fun _ => 0) → G 502 = (fun _ => 0) → F 503 = (fun _ => 0) → (∀ j, j < 4 → F 504 j = -1) → G 505 = (fun _ => 0) → x_J 174 (d + 2) Po 65 [some (.ref 500)] [] (F, G, va_up (x_HR r t) 500 (va_up (va_up (va_up (va_up (va_up (fun _ => none) 0 (some 501)) 1 (some 502)) 5 (some 503)) 6 (some 504)) 7 (some 505)), dm ++ [501] ++ [502] ++ [503] ++ [504] ++ [505], 506) 5 3500 := by
    intro F G h0 h1 h2 h3 h4 h5 h6 h7
    refine x_wp_ok ok174 [74] 6 ?_
    refine And.intro ⟨by decide, show x_SH 506 = (102, 900) by decide +kernel, (x_nin (x_nin (x_nin (x_nin (x_nin (hn 506 (by decide) (by decide)) (show (506 : Nat) ≠ 501 by decide)) (show (506 : Nat) ≠ 502 by decide)) (show (506 : Nat) ≠ 503 by decide)) (show (506 : Nat) ≠ 504 by decide)) (show (506 : Nat) ≠ 505 by decide)), show (506 : Nat) < 1000 by decide, by decide⟩ ?_
    refine And.intro ⟨show 5 + 1 ≤ x_mc 174 by decide, show 3500 + 900 ≤ x_ms 174 by decide⟩ ?_
    have e := s6 (va_up F 506 (fun _ => 0)) (va_up G 506 (fun _ => 0)) (fun c hc => ⟨by rw [x_un (by omega)]; exact (h0 c hc).1, by rw [x_un (by omega)]; exact (h0 c hc).2⟩) (by rw [x_un (by decide)]; exact h1) (by rw [x_un (by decide)]; exact h2) (by rw [x_un (by decide)]; exact h3) (by rw [x_un (by decide)]; exact h4) (by rw [x_un (by decide)]; exact h5) (fun j hj => by rw [x_un (by decide)]; exact h6 j hj) (by rw [x_un (by decide)]; exact h7) (by rw [x_us])
    rw [← x_vu_up', ← x_row_a (a := 506) (ρ := x_HR r t) (L := 500) (u := (va_up (va_up (va_up (va_up (va_up (fun _ => none) 0 (some 501)) 1 (some 502)) 5 (some 503)) 6 (some 504)) 7 (some 505))) rfl (by decide)] at e
    exact e
  have s4 : ∀ F G, (∀ c, c < 500 → F c = f c ∧ G c = g c) → F 500 = (fun _ => 0) → G 500 = va_up (fun _ => 0) 4 1 → F 501 = (fun _ => 0) → G 502 = (fun _ => 0) → F 503 = (fun _ => 0) → (∀ j, j < 4 → F 504 j = -1) → x_J 174 (d + 2) Po 56 [some (.ref 500)] [] (F, G, va_up (x_HR r t) 500 (va_up (va_up (va_up (va_up (fun _ => none) 0 (some 501)) 1 (some 502)) 5 (some 503)) 6 (some 504)), dm ++ [501] ++ [502] ++ [503] ++ [504], 505) 4 3260 := by
    intro F G h0 h1 h2 h3 h4 h5 h6
    refine x_wp_ok ok174 [65] 6 ?_
    refine And.intro ⟨by decide, show x_SH 505 = (101, 240) by decide +kernel, (x_nin (x_nin (x_nin (x_nin (hn 505 (by decide) (by decide)) (show (505 : Nat) ≠ 501 by decide)) (show (505 : Nat) ≠ 502 by decide)) (show (505 : Nat) ≠ 503 by decide)) (show (505 : Nat) ≠ 504 by decide)), show (505 : Nat) < 1000 by decide, by decide⟩ ?_
    refine And.intro ⟨show 4 + 1 ≤ x_mc 174 by decide, show 3260 + 240 ≤ x_ms 174 by decide⟩ ?_
    have e := s5 (va_up F 505 (fun _ => 0)) (va_up G 505 (fun _ => 0)) (fun c hc => ⟨by rw [x_un (by omega)]; exact (h0 c hc).1, by rw [x_un (by omega)]; exact (h0 c hc).2⟩) (by rw [x_un (by decide)]; exact h1) (by rw [x_un (by decide)]; exact h2) (by rw [x_un (by decide)]; exact h3) (by rw [x_un (by decide)]; exact h4) (by rw [x_un (by decide)]; exact h5) (fun j hj => by rw [x_un (by decide)]; exact h6 j hj) (by rw [x_us])
    rw [← x_vu_up', ← x_row_a (a := 505) (ρ := x_HR r t) (L := 500) (u := (va_up (va_up (va_up (va_up (fun _ => none) 0 (some 501)) 1 (some 502)) 5 (some 503)) 6 (some 504))) rfl (by decide)] at e
    exact e
  have s3 : ∀ F G, (∀ c, c < 500 → F c = f c ∧ G c = g c) → F 500 = (fun _ => 0) → G 500 = va_up (fun _ => 0) 4 1 → F 501 = (fun _ => 0) → G 502 = (fun _ => 0) → F 503 = (fun _ => 0) → x_J 174 (d + 2) Po 33 [some (.ref 500)] [] (F, G, va_up (x_HR r t) 500 (va_up (va_up (va_up (fun _ => none) 0 (some 501)) 1 (some 502)) 5 (some 503)), dm ++ [501] ++ [502] ++ [503], 504) 3 3256 := by
    intro F G h0 h1 h2 h3 h4 h5
    refine x_wp_ok ok174 [38] 6 ?_
    refine And.intro ⟨by decide, show x_SH 504 = (100, 4) by decide +kernel, (x_nin (x_nin (x_nin (hn 504 (by decide) (by decide)) (show (504 : Nat) ≠ 501 by decide)) (show (504 : Nat) ≠ 502 by decide)) (show (504 : Nat) ≠ 503 by decide)), show (504 : Nat) < 1000 by decide, by decide⟩ ?_
    refine And.intro ⟨show 3 + 1 ≤ x_mc 174 by decide, show 3256 + 4 ≤ x_ms 174 by decide⟩ ?_
    show x_J 174 (d + 2) Po 38 [some (.ref 500)] [.ref 504, .ref 504, .ref 500] (va_up F 504 (fun _ => 0), va_up G 504 (fun _ => 0), va_up (va_up (x_HR r t) 500 (va_up (va_up (va_up (fun _ => none) 0 (some 501)) 1 (some 502)) 5 (some 503))) 504 (fun _ => none), dm ++ [501] ++ [502] ++ [503] ++ [504], 505) 4 3260
    refine x_wp_ok ok174 [56] 6 ?_
    refine And.intro (show x_ix (Int32.ofInt 0) 4 by unfold x_ix; decide) ?_
    refine And.intro (show x_ix (Int32.ofInt 1) 4 by unfold x_ix; decide) ?_
    refine And.intro (show x_ix (Int32.ofInt 2) 4 by unfold x_ix; decide) ?_
    refine And.intro (show x_ix (Int32.ofInt 3) 4 by unfold x_ix; decide) ?_
    have e := s4 (x_up (x_up (x_up (x_up (va_up F 504 (fun _ => 0)) 504 0 (-1)) 504 1 (-1)) 504 2 (-1)) 504 3 (-1)) (va_up G 504 (fun _ => 0)) (fun c hc => ⟨by rw [x_up_k (by omega), x_up_k (by omega), x_up_k (by omega), x_up_k (by omega), x_un (by omega)]; exact (h0 c hc).1, by rw [x_un (by omega)]; exact (h0 c hc).2⟩) (by rw [x_up_k (by decide), x_up_k (by decide), x_up_k (by decide), x_up_k (by decide), x_un (by decide)]; exact h1) (by rw [x_un (by decide)]; exact h2) (by rw [x_up_k (by decide), x_up_k (by decide), x_up_k (by decide), x_up_k (by decide), x_un (by decide)]; exact h3) (by rw [x_un (by decide)]; exact h4) (by rw [x_up_k (by decide), x_up_k (by decide), x_up_k (by decide), x_up_k (by decide), x_un (by decide)]; exact h5) x_504
    rw [← x_vu_up', ← x_row_a (a := 504) (ρ := x_HR r t) (L := 500) (u := (va_up (va_up (va_up (fun _ => none) 0 (some 501)) 1 (some 502)) 5 (some 503))) rfl (by decide)] at e
    exact e
  have s2 : ∀ F G, (∀ c, c < 500 → F c = f c ∧ G c = g c) → F 500 = (fun _ => 0) → G 500 = va_up (fun _ => 0) 4 1 → F 501 = (fun _ => 0) → G 502 = (fun _ => 0) → x_J 174 (d + 2) Po 26 [some (.ref 500)] [] (F, G, va_up (x_HR r t) 500 (va_up (va_up (fun _ => none) 0 (some 501)) 1 (some 502)), dm ++ [501] ++ [502], 503) 2 3252 := by
    intro F G h0 h1 h2 h3 h4
    refine x_wp_ok ok174 [33] 6 ?_
    refine And.intro ⟨by decide, show x_SH 503 = (100, 4) by decide +kernel, (x_nin (x_nin (hn 503 (by decide) (by decide)) (show (503 : Nat) ≠ 501 by decide)) (show (503 : Nat) ≠ 502 by decide)), show (503 : Nat) < 1000 by decide, by decide⟩ ?_
    refine And.intro ⟨show 2 + 1 ≤ x_mc 174 by decide, show 3252 + 4 ≤ x_ms 174 by decide⟩ ?_
    have e := s3 (va_up F 503 (fun _ => 0)) (va_up G 503 (fun _ => 0)) (fun c hc => ⟨by rw [x_un (by omega)]; exact (h0 c hc).1, by rw [x_un (by omega)]; exact (h0 c hc).2⟩) (by rw [x_un (by decide)]; exact h1) (by rw [x_un (by decide)]; exact h2) (by rw [x_un (by decide)]; exact h3) (by rw [x_un (by decide)]; exact h4) (by rw [x_us])
    rw [← x_vu_up', ← x_row_a (a := 503) (ρ := x_HR r t) (L := 500) (u := (va_up (va_up (fun _ => none) 0 (some 501)) 1 (some 502))) rfl (by decide)] at e
    exact e
  have s1 : ∀ F G, (∀ c, c < 500 → F c = f c ∧ G c = g c) → F 500 = (fun _ => 0) → G 500 = (fun _ => 0) → F 501 = (fun _ => 0) → x_J 174 (d + 2) Po 13 [some (.ref 500)] [] (F, G, va_up (x_HR r t) 500 (va_up (fun _ => none) 0 (some 501)), dm ++ [501], 502) 1 3168 := by
    intro F G h0 h1 h2 h3
    refine x_wp_ok ok174 [26] 6 ?_
    refine And.intro ⟨by decide, show x_SH 502 = (101, 84) by decide +kernel, (x_nin (hn 502 (by decide) (by decide)) (show (502 : Nat) ≠ 501 by decide)), show (502 : Nat) < 1000 by decide, by decide⟩ ?_
    refine And.intro ⟨show 1 + 1 ≤ x_mc 174 by decide, show 3168 + 84 ≤ x_ms 174 by decide⟩ ?_
    have e := s2 (va_up F 502 (fun _ => 0)) (x_up (va_up G 502 (fun _ => 0)) 500 4 1) (fun c hc => ⟨by rw [x_un (by omega)]; exact (h0 c hc).1, by rw [x_up_k (by omega), x_un (by omega)]; exact (h0 c hc).2⟩) (by rw [x_un (by decide)]; exact h1) (by rw [x_up_c, x_un (by decide), h2]) (by rw [x_un (by decide)]; exact h3) (by rw [x_up_k (by decide), x_us])
    rw [← x_vu_up', ← x_row_a (a := 502) (ρ := x_HR r t) (L := 500) (u := (va_up (fun _ => none) 0 (some 501))) rfl (by decide)] at e
    exact e
  have s0 : ∀ F G, (∀ c, c < 500 → F c = f c ∧ G c = g c) → F 500 = (fun _ => 0) → G 500 = (fun _ => 0) → x_J 174 (d + 2) Po 4 [some (.ref 500)] [] (F, G, va_up (x_HR r t) 500 (fun _ => none), dm, 501) 0 0 := by
    intro F G h0 h1 h2
    refine x_wp_ok ok174 [13] 6 ?_
    refine And.intro ⟨by decide, show x_SH 501 = (100, 3168) by decide +kernel, (hn 501 (by decide) (by decide)), show (501 : Nat) < 1000 by decide, by decide⟩ ?_
    refine And.intro ⟨show 0 + 1 ≤ x_mc 174 by decide, show 0 + 3168 ≤ x_ms 174 by decide⟩ ?_
    have e := s1 (va_up F 501 (fun _ => 0)) (va_up G 501 (fun _ => 0)) (fun c hc => ⟨by rw [x_un (by omega)]; exact (h0 c hc).1, by rw [x_un (by omega)]; exact (h0 c hc).2⟩) (by rw [x_un (by decide)]; exact h1) (by rw [x_un (by decide)]; exact h2) (by rw [x_us])
    rw [← x_vu_up', ← x_row_a (a := 501) (ρ := x_HR r t) (L := 500) (u := (fun _ => none)) rfl (by decide)] at e
    exact e
  refine x_Ct_w (by decide) (Nat.le_of_ble_eq_true rfl) ok174 [4] 6 ?_
  exact s0 f g (fun c _ => ⟨rfl, rfl⟩) hf0 hg0
end Ca7
