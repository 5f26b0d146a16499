/-! the relation when both are new, and the law's run -/
theorem z_pln0 : v_M (y_pln (fun _ => 0) 0) 0 y_v0 := by
  have e0 : y_v0 0 0 0 = 0 := rfl
  have e1 : y_v0 1 0 0 = 0 := rfl
  have e2 : y_v0 2 0 0 = 0 := rfl
  refine ⟨fun c i j hv => ?_, rfl, rfl⟩
  have hl := v_ok_le hv
  unfold v_ok at hv
  rw [e0, e1, e2] at hv
  have hcc : c ≤ 8 ∧ i = 0 ∧ j = 0 := by
    repeat' split at hv
    all_goals omega
  obtain ⟨h8, rfl, rfl⟩ := hcc
  have : c = 0 ∨ c = 1 ∨ c = 2 ∨ c = 3 ∨ c = 4 ∨ c = 5 ∨ c = 6 ∨ c = 7 ∨ c = 8 := by omega
  rcases this with rfl | rfl | rfl | rfl | rfl | rfl | rfl | rfl | rfl <;> rfl
theorem z_NR0 {b N : Nat → Int64} : y_NR b y_v0 N := ⟨fun i hi => absurd (show i < 0 from hi) (Nat.not_lt_zero i), fun i hi => absurd (show i < 0 from hi) (Nat.not_lt_zero i), fun i hi => absurd (show i < 0 from hi) (Nat.not_lt_zero i)⟩
theorem z_Bn0 {N : Nat} : v_Bn N y_v0 := ⟨fun c i j hv => y_v0_BA.1 c i j (v_ok_all y_v0_BA hv), Nat.zero_le _, Nat.zero_le _, Nat.zero_le _⟩
def z_W0 : zW := (y_v0, fun _ => 0, none)
def z_T0 : xT := (fun _ => none, fun _ _ => 0)
theorem z_init {F : Nat → Nat → Int32} {G : Nat → Nat → Int64} (h : x_I0 F G) : z_Inv 0 (F, G, x_HR 12 32, x_dmA, 518) := by
  obtain ⟨f, g, ⟨⟨⟨a1, a2, a3⟩, b, ⟨c1, c2, c3⟩, e11⟩, hCA, h32, h14, h19⟩, hc, q500, p500, q501, p502, q503, q504, p505, q506⟩ := h
  have hf : ∀ c, c < 500 → F c = f c := fun c h => (hc c h).1
  have hg : ∀ c, c < 500 → G c = g c := fun c h => (hc c h).2
  have f0 := hf 0 (by decide)
  have g0 := hg 0 (by decide)
  refine ⟨12, 32, F, G, z_W0, fun _ => z_W0, 0, z_T0, none, fun _ => 0, 0, 0, (-1, -1), (0, 1), Or.inl rfl, Or.inl rfl, rfl, ?_, ?_, ?_⟩
  · refine ⟨⟨v_C_fr (v_CA_C y_v0_BA hCA) (fun c c1 c2 => hf c (by omega)) (hg 12 (by decide)), z_NR0, ?_⟩, fun i hi => absurd hi (Nat.not_lt_zero i), fun i hi => ?_, ?_, ⟨?_, ?_, ?_, ?_, ?_, ?_, ?_, ?_⟩, fun i hi => absurd hi (Nat.not_lt_zero i)⟩
    · show F 32 0 = 0
      rw [hf 32 (by decide)]; exact h32
    · show F (2 + 2 * i) 1 = -1
      rw [hf _ (by omega), (b i hi).1]
      exact x_us
    · show F 0 19 = 0
      rw [f0]; exact h19
    · rw [f0, h14]; rfl
    · rw [hf 11 (by decide), e11]
    · rw [f0, c1]; rfl
    · rw [f0]; exact a1
    · rw [f0]; exact c2
    · rw [f0]; exact c3
    · rw [g0]; exact a2
    · rw [g0]; exact a3
  · refine ⟨⟨?_, z_NR0, ?_⟩, fun i hi => absurd hi (Nat.not_lt_zero i), fun i hi => ?_, ?_, ?_, q506, ?_, ?_, ?_, ?_, ?_, ?_⟩
    · rw [q501]; exact z_pln0
    · show F 501 11 = -1
      rw [q501]; rfl
    · show F 504 i = -1
      exact q504 i hi
    · show F 500 37 = 0
      rw [q500]; rfl
    · rw [q500]; rfl
    · rw [q500]; rfl
    · rw [q500]; rfl
    · rw [q500]; rfl
    · rw [q500]; rfl
    · rw [p500]; rfl
    · rw [p500]; rfl
  · exact ⟨⟨z_Bn0, trivial⟩, fun i hi => absurd hi (Nat.not_lt_zero i), Nat.zero_le _, Nat.zero_le _, fun j hj => absurd hj (Nat.not_lt_zero j)⟩
theorem z_mono : ∀ u h, z_Inv u h → z_Inv (u + 1) h := fun u h hI => by
  obtain ⟨r, t, f, g, W, M, m, T, D, a, k, s, e, p, hr, ht, rfl, hC, hRM, hV⟩ := hI
  exact ⟨r, t, f, g, W, M, m, T, D, a, k, s, e, p, hr, ht, rfl, hC, hRM, z_RV_m hV⟩
/-- the law, from its first row: whatever the script -/
theorem z_law {L : Nat} {xs : Nat → Int32} (hL : L ≤ 3072) {f : Nat → Nat → Int32} {g : Nat → Nat → Int64} : x_JL L xs 0 [some (.ref 1005), none, none, none] [] (f, g, x_HR 12 32, [], 0) 0 0 :=
  x_law_begin (fun F G cs ss h0 hcs hss => x_law_run2 hL z_Inv z_mono z_k0 z_k1 z_k2 z_k3 z_k4 z_k5 z_k6 z_k7 z_k8 z_k9 z_k10 z_k11 z_k12 z_k13 z_k14 z_k15 z_k16 z_k17 z_k18 z_k19 z_k20 z_k21 z_k22 z_k23 z_k24 z_k25 z_k26 z_k27 z_k28 z_k29 z_k30 z_k31 z_k32 z_k33 z_k34 z_k35 z_k36 z_k37 z_k38 z_k39 z_k40 z_k41 z_k42 z_k43 z_k44 z_k45 z_k46 z_k47 z_k48 z_k49 z_k50 z_k51 z_k52 z_k53 z_k54 z_k55 z_k56 z_k57 z_k58 (z_init h0) hcs hss)
