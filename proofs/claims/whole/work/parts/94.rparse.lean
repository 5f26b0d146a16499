/-! REIGNS, read: a line as five numbers, the lines, how many, the steps, the depth, what is open -/
abbrev xN5 : Type := Nat × Nat × Nat × Nat × Nat
abbrev xTr : Type := xR × Nat × Nat × Nat × (Nat → Nat)
def y_obj (a : Nat → Int32) (m : Nat) (N : Nat → Int64) (P G : Nat) (w : Int32) (q : Nat) : xF (Nat × Nat) := if w = 23 then y_old a m N 9 P q else if w = 24 then y_old a m N 4 G q else .inr (0, q)
def y_tst (a : Nat → Int32) (m : Nat) (N : Nat → Int64) (P G q : Nat) : xF (xN5 × Nat) := if y_wm a m q = 22 ∨ y_wm a m q = 23 ∨ y_wm a m q = 24 then y_bd (y_obj a m N P G (y_wm a m q) (y_nxt a m q)) (fun z => if y_tk a m z.2 = 60 ∨ y_tk a m z.2 = 62 ∨ y_tk a m z.2 = 61 then y_bd (y_nbr a m 0 (if y_wm a m q = 22 then 999 else 9999) (y_nxt a m z.2)) (fun x => .inr (((y_wm a m q).toNatClampNeg - 4, z.1, 0, x.1, (y_tk a m z.2).toNatClampNeg), x.2)) else .inl (y_fl a m z.2 2)) else .inl (y_fl a m q 2)
def y_deed (a : Nat → Int32) (m : Nat) (N : Nat → Int64) (P M b w q : Nat) : xF (xN5 × Nat) := y_bd (y_old a m N 9 P q) (fun p => y_bd (y_old a m N b M p.2) (fun i => y_bd (y_nbr a m 1 99 i.2) (fun x => .inr ((w, p.1, i.1, x.1, 0), x.2))))
def y_numb (a : Nat → Int32) (m o hi q : Nat) : xF (xN5 × Nat) := y_bd (y_nbr a m 1 hi q) (fun x => .inr ((o, 0, 0, x.1, 0), x.2))
def y_ordr (a : Nat → Int32) (m : Nat) (N : Nat → Int64) (P K G w q : Nat) : xF (xN5 × Nat) := if w = 11 ∨ w = 14 ∨ w = 15 then y_deed a m N P K 0 w q else if w = 12 ∨ w = 13 then y_deed a m N P G 4 w q else if w = 16 then y_numb a m 16 20 q else if w = 19 then y_numb a m 22 99 q else if w = 18 then y_tst a m N P G q else .inr ((if w = 17 then 17 else 24, 0, 0, 0, 0), q)
def y_lne (s : xR) (k : Nat) (z : xN5) : xR := fun c j => if j = k then (if c = 0 then z.1 else if c = 1 then z.2.1 else if c = 2 then z.2.2.1 else if c = 3 then z.2.2.2.1 else if c = 5 then z.2.2.2.2 else 0) else s c j
def y_cls (s : xR) (k e : Nat) : xR := fun c j => if c = 4 then (if j = k then e else if j = e then k else s 4 j) else if c = 0 ∧ j = e then 23 else s c j
def y_rst (a : Nat → Int32) (m : Nat) (N : Nat → Int64) (P K G : Nat) (S : xTr) (q : Nat) : xF (xTr × Nat) :=
  if y_wm a m q = 20 then (if S.2.2.2.1 = 0 then .inl (y_fl a m q 2) else y_bd (y_sgn a m 59 (y_nxt a m q)) (fun q2 => .inr ((y_cls S.1 (S.2.2.2.2 (S.2.2.2.1 - 1)) S.2.1, S.2.1 + 1, S.2.2.1, S.2.2.2.1 - 1, S.2.2.2.2), q2)))
  else if y_wm a m q < 11 ∨ 21 < y_wm a m q then .inl (y_fl a m q 2)
  else if S.2.2.1 = 30 then .inl (y_fl a m q 6)
  else if (y_wm a m q = 18 ∨ y_wm a m q = 19) ∧ S.2.2.2.1 = 3 then .inl (y_fl a m q 7)
  else y_bd (y_ordr a m N P K G (y_wm a m q).toNatClampNeg (y_nxt a m q)) (fun z => y_bd (y_sgn a m 59 z.2) (fun q2 => .inr ((y_lne S.1 S.2.1 z.1, S.2.1 + 1, S.2.2.1 + 1, if y_wm a m q = 18 ∨ y_wm a m q = 19 then S.2.2.2.1 + 1 else S.2.2.2.1, if y_wm a m q = 18 ∨ y_wm a m q = 19 then va_up S.2.2.2.2 S.2.2.2.1 S.2.1 else S.2.2.2.2), q2)))
def y_rns (a : Nat → Int32) (m : Nat) (N : Nat → Int64) (P K G : Nat) : Nat → xTr → Nat → xF xTr
  | 0, S, q => if 0 < S.2.2.2.1 then .inl (y_fl a m q 2) else .inr S
  | n + 1, S, q => if y_sa a m q = 3 then (if 0 < S.2.2.2.1 then .inl (y_fl a m q 2) else .inr S) else y_bd (y_rst a m N P K G S q) (fun z => y_rns a m N P K G n z.1 z.2)
def y_Tr0 : xTr := (fun _ _ => 0, 0, 0, 0, fun _ => 0)
def y_reigns (a : Nat → Int32) (N : Nat → Int64) (P K G k : Nat) : xF xTr := y_rns a k N P K G k y_Tr0 (y_skip a k 0)
/-- a line that is not open -/
def y_cl (S : xTr) (k : Nat) : Prop := ∀ i, i < S.2.2.2.1 → S.2.2.2.2 i ≠ k
/-- what holds of the lines that have been read -/
def y_RI (P K G : Nat) (S : xTr) : Prop := S.2.1 + S.2.2.2.1 ≤ 2 * S.2.2.1 ∧ S.2.2.1 ≤ 30 ∧ S.2.2.2.1 ≤ 3 ∧ (∀ k, k < S.2.1 → y_li S.1 P K G k) ∧ (∀ i, i < S.2.2.2.1 → S.2.2.2.2 i < S.2.1 ∧ y_op S.1 (S.2.2.2.2 i)) ∧ (∀ i j, i < j → j < S.2.2.2.1 → S.2.2.2.2 i < S.2.2.2.2 j) ∧ (∀ k, k < S.2.1 → y_op S.1 k → y_cl S k → k < S.1 4 k ∧ S.1 4 k < S.2.1 ∧ S.1 0 (S.1 4 k) = 23) ∧ (∀ k, k < S.2.1 → S.1 0 k = 23 → S.1 4 k < k ∧ y_op S.1 (S.1 4 k) ∧ y_cl S (S.1 4 k) ∧ S.1 4 (S.1 4 k) = k) ∧ ∀ b c, b < c → y_cl S b → c < S.1 4 b → S.1 4 b < S.2.1 → y_op S.1 b → y_op S.1 c → y_cl S c ∧ S.1 4 c < S.1 4 b
theorem y_RI_0 (P K G : Nat) : y_RI P K G y_Tr0 := ⟨Nat.le_refl _, Nat.zero_le _, Nat.zero_le _, fun k h => absurd h (Nat.not_lt_zero _), fun k h => absurd h (Nat.not_lt_zero _), fun i j _ h => absurd h (Nat.not_lt_zero _), fun k h => absurd h (Nat.not_lt_zero _), fun k h => absurd h (Nat.not_lt_zero _), fun b c _ _ h => absurd h (Nat.not_lt_zero _)⟩
theorem y_RI_SV {P K G : Nat} {S : xTr} (h : y_RI P K G S) (h0 : S.2.2.2.1 = 0) : y_SV S.1 S.2.1 P K G := by
  obtain ⟨h1, h2, h3, h4, h5, h6, h7, h8, h9⟩ := h
  have hc : ∀ k, y_cl S k := fun k i hi => absurd hi (by omega)
  exact ⟨by omega, h4, fun k hk ho => h7 k hk ho (hc k), fun k hk he => ⟨(h8 k hk he).1, (h8 k hk he).2.1, (h8 k hk he).2.2.2⟩, fun b c b1 b2 b3 b4 b5 => (h9 b c b1 (hc b) b2 b3 b4 b5).2⟩
theorem y_lne_n {s : xR} {k : Nat} {z : xN5} {c j : Nat} (h : j ≠ k) : y_lne s k z c j = s c j := if_neg h
theorem y_lne_0 {s : xR} {k : Nat} {z : xN5} : y_lne s k z 0 k = z.1 := if_pos rfl
theorem y_lne_1 {s : xR} {k : Nat} {z : xN5} : y_lne s k z 1 k = z.2.1 := if_pos rfl
theorem y_lne_2 {s : xR} {k : Nat} {z : xN5} : y_lne s k z 2 k = z.2.2.1 := if_pos rfl
theorem y_lne_3 {s : xR} {k : Nat} {z : xN5} : y_lne s k z 3 k = z.2.2.2.1 := if_pos rfl
theorem y_lne_4 {s : xR} {k : Nat} {z : xN5} : y_lne s k z 4 k = 0 := if_pos rfl
theorem y_lne_5 {s : xR} {k : Nat} {z : xN5} : y_lne s k z 5 k = z.2.2.2.2 := if_pos rfl
theorem y_cls_n {s : xR} {k e c j : Nat} (h4 : c ≠ 4) (h0 : c ≠ 0 ∨ j ≠ e) : y_cls s k e c j = s c j := by
  unfold y_cls
  rw [if_neg h4, if_neg (fun q => h0.elim (fun h => h q.1) (fun h => h q.2))]
theorem y_cls_0 {s : xR} {k e : Nat} : y_cls s k e 0 e = 23 := by
  unfold y_cls
  rw [if_neg (by decide), if_pos ⟨rfl, rfl⟩]
theorem y_cls_k {s : xR} {k e : Nat} : y_cls s k e 4 k = e := by
  unfold y_cls
  rw [if_pos rfl, if_pos rfl]
theorem y_cls_e {s : xR} {k e : Nat} (h : e ≠ k) : y_cls s k e 4 e = k := by
  unfold y_cls
  rw [if_pos rfl, if_neg h, if_pos rfl]
theorem y_cls_4 {s : xR} {k e j : Nat} (h1 : j ≠ k) (h2 : j ≠ e) : y_cls s k e 4 j = s 4 j := by
  unfold y_cls
  rw [if_pos rfl, if_neg h1, if_neg h2]
theorem y_li_cg {s s' : xR} {P K G k : Nat} (h : ∀ c, c ≠ 4 → s' c k = s c k) (hl : y_li s P K G k) : y_li s' P K G k := by
  unfold y_li at hl ⊢
  rw [h 0 (by decide), h 1 (by decide), h 2 (by decide), h 3 (by decide), h 5 (by decide)]
  exact hl
theorem y_op_cg {s s' : xR} {k : Nat} (h : s' 0 k = s 0 k) : y_op s' k ↔ y_op s k := by
  unfold y_op
  rw [h]
theorem y_op_23 {s : xR} {k : Nat} (h : y_op s k) : s 0 k ≠ 23 := by
  unfold y_op at h
  omega
/-- a step more -/
theorem y_RI_ln {P K G : Nat} {S : xTr} {z : xN5} {b : Bool} (h : y_RI P K G S) (hst : S.2.2.1 < 30) (hl : y_li (y_lne S.1 S.2.1 z) P K G S.2.1) (hb : y_op (y_lne S.1 S.2.1 z) S.2.1 ↔ b = true) (hn : z.1 ≠ 23) (hd : b = true → S.2.2.2.1 < 3) : y_RI P K G (y_lne S.1 S.2.1 z, S.2.1 + 1, S.2.2.1 + 1, if b = true then S.2.2.2.1 + 1 else S.2.2.2.1, if b = true then va_up S.2.2.2.2 S.2.2.2.1 S.2.1 else S.2.2.2.2) := by
  obtain ⟨s, NL, st, dp, op⟩ := S
  obtain ⟨h1, h2, h3, h4, h5, h6, h7, h8, h9⟩ := h
  simp only at h1 h2 h3 h4 h5 h6 h7 h8 h9 hst hl hb hd ⊢
  obtain ⟨dp', hdp⟩ : ∃ dp', dp' = if b = true then dp + 1 else dp := ⟨_, rfl⟩
  obtain ⟨op', hop⟩ : ∃ op', op' = if b = true then va_up op dp NL else op := ⟨_, rfl⟩
  rw [← hdp, ← hop]
  have opl : ∀ i, i < dp → op' i = op i := by
    intro i hi
    rw [hop]
    by_cases e : b = true
    · rw [if_pos e, x_un (by omega)]
    · rw [if_neg e]
  have dpc : (b = true ∧ dp' = dp + 1 ∧ op' dp = NL) ∨ (b = false ∧ dp' = dp) := by
    cases b with
    | true => exact Or.inl ⟨rfl, by rw [hdp, if_pos rfl], by rw [hop, if_pos rfl, x_us]⟩
    | false => exact Or.inr ⟨rfl, by rw [hdp, if_neg (by decide)]⟩
  have old : ∀ i, i < dp' → (i < dp ∧ op' i = op i) ∨ (i = dp ∧ b = true ∧ op' i = NL) := by
    intro i hi
    rcases dpc with ⟨e1, e2, e3⟩ | ⟨e1, e2⟩
    · by_cases e : i = dp
      · exact Or.inr ⟨e, e1, by rw [e]; exact e3⟩
      · exact Or.inl ⟨by omega, opl i (by omega)⟩
    · exact Or.inl ⟨by omega, opl i (by omega)⟩
  have le : dp ≤ dp' ∧ dp' ≤ dp + 1 := by
    rcases dpc with ⟨e1, e2, e3⟩ | ⟨e1, e2⟩ <;> omega
  have s0 : ∀ k, k < NL → ∀ c, y_lne s NL z c k = s c k := fun k hk c => y_lne_n (by omega)
  have clo : ∀ k, k < NL → (∀ i, i < dp' → op' i ≠ k) → y_cl (s, NL, st, dp, op) k := by
    intro k hk hc i hi
    have := hc i (Nat.lt_of_lt_of_le hi le.1)
    rw [opl i hi] at this
    exact this
  have clu : ∀ k, k < NL → y_cl (s, NL, st, dp, op) k → ∀ i, i < dp' → op' i ≠ k := by
    intro k hk hc i hi
    rcases old i hi with ⟨e1, e2⟩ | ⟨e1, e2, e3⟩
    · rw [e2]
      exact hc i e1
    · rw [e3]
      omega
  refine ⟨by show NL + 1 + dp' ≤ 2 * (st + 1); omega, by show st + 1 ≤ 30; omega, ?_, ?_, ?_, ?_, ?_, ?_, ?_⟩
  · show dp' ≤ 3
    rcases dpc with ⟨e1, e2, e3⟩ | ⟨e1, e2⟩
    · have := hd e1
      omega
    · omega
  · intro k hk
    have hk : k < NL + 1 := hk
    by_cases e : k = NL
    · rw [e]
      exact hl
    · exact y_li_cg (fun c _ => s0 k (by omega) c) (h4 k (by omega))
  · intro i hi
    show op' i < NL + 1 ∧ y_op (y_lne s NL z) (op' i)
    rcases old i hi with ⟨e1, e2⟩ | ⟨e1, e2, e3⟩
    · have w := h5 i e1
      rw [e2]
      exact ⟨by omega, (y_op_cg (s0 _ w.1 0)).mpr w.2⟩
    · rw [e3]
      exact ⟨by omega, hb.mpr e2⟩
  · intro i j hij hj
    show op' i < op' j
    rcases old j hj with ⟨e1, e2⟩ | ⟨e1, e2, e3⟩
    · rw [e2, opl i (by omega)]
      exact h6 i j hij e1
    · rw [e3, opl i (by omega)]
      exact (h5 i (by omega)).1
  · intro k hk ho hc
    have hk : k < NL + 1 := hk
    show k < y_lne s NL z 4 k ∧ y_lne s NL z 4 k < NL + 1 ∧ y_lne s NL z 0 (y_lne s NL z 4 k) = 23
    by_cases e : k = NL
    · rw [e] at ho hc
      have e1 := hb.mp ho
      rcases dpc with ⟨-, e2, e3⟩ | ⟨e2, -⟩
      · exact absurd e3 (hc dp (show dp < dp' by omega))
      · rw [e2] at e1
        cases e1
    · have w := h7 k (by omega) ((y_op_cg (s0 k (by omega) 0)).mp ho) (clo k (by omega) hc)
      rw [s0 k (by omega) 4, s0 _ w.2.1 0]
      exact ⟨w.1, by omega, w.2.2⟩
  · intro k hk h23
    have hk : k < NL + 1 := hk
    have h23 : y_lne s NL z 0 k = 23 := h23
    show y_lne s NL z 4 k < k ∧ y_op (y_lne s NL z) (y_lne s NL z 4 k) ∧ (∀ i, i < dp' → op' i ≠ y_lne s NL z 4 k) ∧ y_lne s NL z 4 (y_lne s NL z 4 k) = k
    by_cases e : k = NL
    · rw [e, y_lne_0] at h23
      exact absurd h23 hn
    · rw [s0 k (by omega) 0] at h23
      have w := h8 k (by omega) h23
      rw [s0 k (by omega) 4, s0 (s 4 k) (by omega) 4]
      exact ⟨w.1, (y_op_cg (s0 _ (by omega) 0)).mpr w.2.1, clu _ (by omega) w.2.2.1, w.2.2.2⟩
  · intro b' c hbc hcb hc4 h4n hob hoc
    have hc4 : c < y_lne s NL z 4 b' := hc4
    have h4n : y_lne s NL z 4 b' < NL + 1 := h4n
    show (∀ i, i < dp' → op' i ≠ c) ∧ y_lne s NL z 4 c < y_lne s NL z 4 b'
    by_cases e : b' = NL
    · rw [e, y_lne_4] at hc4
      exact absurd hc4 (Nat.not_lt_zero _)
    · have hbn : b' < NL := by omega
      have w7 := h7 b' hbn ((y_op_cg (s0 b' hbn 0)).mp hob) (clo b' hbn hcb)
      rw [s0 b' hbn 4] at hc4
      have w := h9 b' c hbc (clo b' hbn hcb) hc4 w7.2.1 ((y_op_cg (s0 b' hbn 0)).mp hob) ((y_op_cg (s0 c (by omega) 0)).mp hoc)
      rw [s0 b' hbn 4, s0 c (by omega) 4]
      exact ⟨clu c (by omega) w.1, w.2⟩
/-- an end -/
theorem y_RI_end {P K G : Nat} {S : xTr} (h : y_RI P K G S) (hd : S.2.2.2.1 ≠ 0) : y_RI P K G (y_cls S.1 (S.2.2.2.2 (S.2.2.2.1 - 1)) S.2.1, S.2.1 + 1, S.2.2.1, S.2.2.2.1 - 1, S.2.2.2.2) := by
  obtain ⟨s, NL, st, dp, op⟩ := S
  obtain ⟨h1, h2, h3, h4, h5, h6, h7, h8, h9⟩ := h
  simp only at h1 h2 h3 h4 h5 h6 h7 h8 h9 hd ⊢
  obtain ⟨k0, hk0⟩ : ∃ k0, k0 = op (dp - 1) := ⟨_, rfl⟩
  rw [← hk0]
  have w0 := h5 (dp - 1) (by omega)
  rw [← hk0] at w0
  have s0 : ∀ k, k < NL → y_cls s k0 NL 0 k = s 0 k := fun k hk => y_cls_n (by decide) (Or.inr (by omega))
  have clo : ∀ k, k ≠ k0 → (∀ i, i < dp - 1 → op i ≠ k) → y_cl (s, NL, st, dp, op) k := by
    intro k hk hc i hi
    have hi : i < dp := hi
    show op i ≠ k
    by_cases e : i = dp - 1
    · rw [e, ← hk0]
      exact Ne.symm hk
    · exact hc i (by omega)
  have clk : ∀ k, y_cl (s, NL, st, dp, op) k → k ≠ k0 ∧ ∀ i, i < dp - 1 → op i ≠ k := by
    intro k hc
    refine ⟨fun e => hc (dp - 1) (show dp - 1 < dp by omega) ?_, fun i hi => hc i (show i < dp by omega)⟩
    show op (dp - 1) = k
    rw [← hk0, e]
  have top : ∀ i, i < dp → op i ≤ k0 := by
    intro i hi
    by_cases e : i = dp - 1
    · rw [e, hk0]
      exact Nat.le_refl _
    · rw [hk0]
      exact Nat.le_of_lt (h6 i (dp - 1) (by omega) (by omega))
  refine ⟨by show NL + 1 + (dp - 1) ≤ 2 * st; omega, h2, by show dp - 1 ≤ 3; omega, ?_, ?_, ?_, ?_, ?_, ?_⟩
  · intro k hk
    have hk : k < NL + 1 := hk
    by_cases e : k = NL
    · rw [e]
      show y_li (y_cls s k0 NL) P K G NL
      unfold y_li
      rw [y_cls_0]
      omega
    · exact y_li_cg (fun c hc => y_cls_n hc (Or.inr e)) (h4 k (by omega))
  · intro i hi
    have hi : i < dp - 1 := hi
    have w := h5 i (by omega)
    exact ⟨show op i < NL + 1 by omega, (y_op_cg (s0 _ w.1)).mpr w.2⟩
  · intro i j hij hj
    have hj : j < dp - 1 := hj
    exact h6 i j hij (by omega)
  · intro k hk ho hc
    have hk : k < NL + 1 := hk
    show k < y_cls s k0 NL 4 k ∧ y_cls s k0 NL 4 k < NL + 1 ∧ y_cls s k0 NL 0 (y_cls s k0 NL 4 k) = 23
    by_cases e : k = NL
    · rw [e] at ho
      exact absurd y_cls_0 (y_op_23 ho)
    · by_cases e2 : k = k0
      · rw [e2, y_cls_k, y_cls_0]
        exact ⟨w0.1, by omega, rfl⟩
      · have w := h7 k (by omega) ((y_op_cg (s0 k (by omega))).mp ho) (clo k e2 hc)
        rw [y_cls_4 e2 e, s0 _ w.2.1]
        exact ⟨w.1, by omega, w.2.2⟩
  · intro k hk h23
    have hk : k < NL + 1 := hk
    have h23 : y_cls s k0 NL 0 k = 23 := h23
    show y_cls s k0 NL 4 k < k ∧ y_op (y_cls s k0 NL) (y_cls s k0 NL 4 k) ∧ (∀ i, i < dp - 1 → op i ≠ y_cls s k0 NL 4 k) ∧ y_cls s k0 NL 4 (y_cls s k0 NL 4 k) = k
    by_cases e : k = NL
    · rw [e, y_cls_e (by omega), y_cls_k]
      refine ⟨w0.1, (y_op_cg (s0 _ w0.1)).mpr w0.2, fun i hi => ?_, rfl⟩
      have := h6 i (dp - 1) (by omega) (by omega)
      rw [← hk0] at this
      omega
    · rw [s0 k (by omega)] at h23
      have w := h8 k (by omega) h23
      have hkk : k ≠ k0 := fun e2 => y_op_23 w0.2 (by rw [← e2]; exact h23)
      obtain ⟨w4, w5⟩ := clk _ w.2.2.1
      rw [y_cls_4 hkk e, y_cls_4 w4 (by omega)]
      exact ⟨w.1, (y_op_cg (s0 _ (by omega))).mpr w.2.1, w5, w.2.2.2⟩
  · intro b c hbc hcb hc4 h4n hob hoc
    have hc4 : c < y_cls s k0 NL 4 b := hc4
    have h4n : y_cls s k0 NL 4 b < NL + 1 := h4n
    have hcn : c < NL := by omega
    have hob := (y_op_cg (s0 b (by omega))).mp hob
    have hoc := (y_op_cg (s0 c hcn)).mp hoc
    show (∀ i, i < dp - 1 → op i ≠ c) ∧ y_cls s k0 NL 4 c < y_cls s k0 NL 4 b
    by_cases e : b = k0
    · have hcl : y_cl (s, NL, st, dp, op) c := by
        intro i hi
        have := top i hi
        show op i ≠ c
        omega
      have w := h7 c hcn hoc hcl
      rw [e, y_cls_k, y_cls_4 (by omega) (by omega)]
      exact ⟨(clk c hcl).2, w.2.1⟩
    · have hcb' := clo b e hcb
      have w7 := h7 b (by omega) hob hcb'
      rw [y_cls_4 e (by omega)] at hc4
      have w := h9 b c hbc hcb' hc4 w7.2.1 hob hoc
      obtain ⟨w4, w5⟩ := clk c w.1
      rw [y_cls_4 e (by omega), y_cls_4 w4 (by omega)]
      exact ⟨w5, w.2⟩
/-- what a step's order may be -/
theorem y_ordr_li {a : Nat → Int32} {m : Nat} {N : Nat → Int64} {P K G w q : Nat} {z : xN5 × Nat} (hw1 : 11 ≤ w) (hw2 : w ≤ 21) (hw3 : w ≠ 20) (hq : q ≤ m) (h : y_ordr a m N P K G w q = .inr z) : (q ≤ z.2 ∧ z.2 ≤ m) ∧ (∀ s k, y_li (y_lne s k z.1) P K G k) ∧ (∀ s k, y_op (y_lne s k z.1) k ↔ (w = 18 ∨ w = 19)) ∧ z.1.1 ≠ 23 := by
  unfold y_ordr at h
  have fin : ∀ (o p i x sg : Nat) (q2 : Nat), z = ((o, p, i, x, sg), q2) → (q ≤ q2 ∧ q2 ≤ m) → (((o = 11 ∨ o = 14 ∨ o = 15) ∧ p < P ∧ i < K ∧ 1 ≤ x ∧ x ≤ 99) ∨ ((o = 12 ∨ o = 13) ∧ p < P ∧ i < G ∧ 1 ≤ x ∧ x ≤ 99) ∨ (o = 16 ∧ 1 ≤ x ∧ x ≤ 20) ∨ (o = 17 ∨ o = 24) ∨ ((o = 18 ∨ (o = 19 ∧ p < P) ∨ (o = 20 ∧ p < G)) ∧ x ≤ 9999 ∧ sg ≤ 62) ∨ (o = 22 ∧ 1 ≤ x ∧ x ≤ 99) ∨ o = 23) → (((o = 18 ∨ o = 19 ∨ o = 20) ∨ o = 22) ↔ (w = 18 ∨ w = 19)) → o ≠ 23 → (q ≤ z.2 ∧ z.2 ≤ m) ∧ (∀ s k, y_li (y_lne s k z.1) P K G k) ∧ (∀ s k, y_op (y_lne s k z.1) k ↔ (w = 18 ∨ w = 19)) ∧ z.1.1 ≠ 23 := by
    intro o p i x sg q2 hz hq2 hli hop hn
    subst hz
    refine ⟨hq2, fun s k => ?_, fun s k => ?_, hn⟩
    · unfold y_li
      rw [y_lne_0, y_lne_1, y_lne_2, y_lne_3, y_lne_5]
      exact hli
    · unfold y_op
      rw [y_lne_0]
      exact hop
  by_cases c1 : w = 11 ∨ w = 14 ∨ w = 15
  · rw [if_pos c1] at h
    unfold y_deed at h
    obtain ⟨p, hp, h⟩ := y_bd_inr h
    obtain ⟨i, hi, h⟩ := y_bd_inr h
    obtain ⟨x, hx, h⟩ := y_bd_inr h
    cases h
    have k1 := y_old_gt hp
    have k2 := y_old_gt hi
    have k3 := y_nbr_gt hx
    exact fin w p.1 i.1 x.1 0 x.2 rfl (by omega) (by omega) (by omega) (by omega)
  rw [if_neg c1] at h
  by_cases c2 : w = 12 ∨ w = 13
  · rw [if_pos c2] at h
    unfold y_deed at h
    obtain ⟨p, hp, h⟩ := y_bd_inr h
    obtain ⟨i, hi, h⟩ := y_bd_inr h
    obtain ⟨x, hx, h⟩ := y_bd_inr h
    cases h
    have k1 := y_old_gt hp
    have k2 := y_old_gt hi
    have k3 := y_nbr_gt hx
    exact fin w p.1 i.1 x.1 0 x.2 rfl (by omega) (by omega) (by omega) (by omega)
  rw [if_neg c2] at h
  by_cases c3 : w = 16
  · rw [if_pos c3] at h
    unfold y_numb at h
    obtain ⟨x, hx, h⟩ := y_bd_inr h
    cases h
    have k3 := y_nbr_gt hx
    exact fin 16 0 0 x.1 0 x.2 rfl (by omega) (by omega) (by omega) (by omega)
  rw [if_neg c3] at h
  by_cases c4 : w = 19
  · rw [if_pos c4] at h
    unfold y_numb at h
    obtain ⟨x, hx, h⟩ := y_bd_inr h
    cases h
    have k3 := y_nbr_gt hx
    exact fin 22 0 0 x.1 0 x.2 rfl (by omega) (by omega) (by omega) (by omega)
  rw [if_neg c4] at h
  by_cases c5 : w = 18
  · rw [if_pos c5] at h
    unfold y_tst at h
    by_cases d : y_wm a m q = 22 ∨ y_wm a m q = 23 ∨ y_wm a m q = 24
    · rw [if_pos d] at h
      have hsa : y_sa a m q = 1 := y_wm_sa (by rcases d with d | d | d <;> rw [d] <;> decide)
      have kn := y_nxt_gt (a := a) (m := m) (q := q) (by rw [hsa]; decide)
      obtain ⟨u, hu, h⟩ := y_bd_inr h
      by_cases e : y_tk a m u.2 = 60 ∨ y_tk a m u.2 = 62 ∨ y_tk a m u.2 = 61
      · rw [if_pos e] at h
        have hsg : (y_tk a m u.2).toNatClampNeg ≤ 62 := by rcases e with e | e | e <;> rw [e] <;> decide
        have ks := y_nxt_gt (a := a) (m := m) (q := u.2) (by rcases e with e | e | e <;> rw [y_tk_sa e (by decide)] <;> decide)
        obtain ⟨x, hx, h⟩ := y_bd_inr h
        cases h
        have k3 := y_nbr_gt hx
        have kx : x.1 ≤ 9999 := by
          refine Nat.le_trans k3.2.2 ?_
          split <;> decide
        unfold y_obj at hu
        rcases d with d | d | d
        · rw [d, if_neg (by decide), if_neg (by decide)] at hu
          cases hu
          refine fin _ 0 0 x.1 _ x.2 rfl ⟨?_, k3.1.2⟩ ?_ ?_ ?_
          · have h1 : y_nxt a m q < y_nxt a m (y_nxt a m q) := ks.1
            have h2 : y_nxt a m (y_nxt a m q) < x.2 := k3.1.1
            omega
          · rw [d, show ((22 : Int32)).toNatClampNeg - 4 = 18 from rfl]
            omega
          · rw [d, show ((22 : Int32)).toNatClampNeg - 4 = 18 from rfl]
            omega
          · rw [d]
            decide
        · rw [d, if_pos rfl] at hu
          have k1 := y_old_gt hu
          refine fin _ u.1 0 x.1 _ x.2 rfl ⟨by omega, k3.1.2⟩ ?_ ?_ ?_
          · rw [d, show ((23 : Int32)).toNatClampNeg - 4 = 19 from rfl]
            omega
          · rw [d, show ((23 : Int32)).toNatClampNeg - 4 = 19 from rfl]
            omega
          · rw [d]
            decide
        · rw [d, if_neg (by decide), if_pos rfl] at hu
          have k1 := y_old_gt hu
          refine fin _ u.1 0 x.1 _ x.2 rfl ⟨by omega, k3.1.2⟩ ?_ ?_ ?_
          · rw [d, show ((24 : Int32)).toNatClampNeg - 4 = 20 from rfl]
            omega
          · rw [d, show ((24 : Int32)).toNatClampNeg - 4 = 20 from rfl]
            omega
          · rw [d]
            decide
      · rw [if_neg e] at h
        cases h
    · rw [if_neg d] at h
      cases h
  rw [if_neg c5] at h
  cases h
  by_cases c6 : w = 17
  · exact fin 17 0 0 0 0 q (by rw [if_pos c6]) ⟨Nat.le_refl _, hq⟩ (by omega) (by omega) (by omega)
  · exact fin 24 0 0 0 0 q (by rw [if_neg c6]) ⟨Nat.le_refl _, hq⟩ (by omega) (by omega) (by omega)
theorem y_rst_ok {a : Nat → Int32} {m : Nat} {N : Nat → Int64} {P K G q : Nat} {S : xTr} {z : xTr × Nat} (hI : y_RI P K G S) (h : y_rst a m N P K G S q = .inr z) : y_RI P K G z.1 ∧ q < z.2 ∧ z.2 ≤ m := by
  unfold y_rst at h
  by_cases c : y_wm a m q = 20
  · rw [if_pos c] at h
    by_cases d : S.2.2.2.1 = 0
    · rw [if_pos d] at h
      cases h
    · rw [if_neg d] at h
      obtain ⟨q2, h2, h⟩ := y_bd_inr h
      cases h
      have k1 := y_sgn_gt (by decide) (by decide) h2
      have k2 := y_nxt_gt (a := a) (m := m) (q := q) (by rw [y_wm_sa (by rw [c]; decide)]; decide)
      exact ⟨y_RI_end hI d, by omega, k1.2⟩
  rw [if_neg c] at h
  by_cases c1 : y_wm a m q < 11 ∨ 21 < y_wm a m q
  · rw [if_pos c1] at h
    cases h
  rw [if_neg c1] at h
  by_cases c2 : S.2.2.1 = 30
  · rw [if_pos c2] at h
    cases h
  rw [if_neg c2] at h
  by_cases c3 : (y_wm a m q = 18 ∨ y_wm a m q = 19) ∧ S.2.2.2.1 = 3
  · rw [if_pos c3] at h
    cases h
  rw [if_neg c3] at h
  obtain ⟨z1, h1, h⟩ := y_bd_inr h
  obtain ⟨q2, h2, h⟩ := y_bd_inr h
  cases h
  rcases y_wm_rg a m q with hw | ⟨w, hw25, hw⟩
  · exact absurd (by rw [hw]; decide) c1
  · have hlo : 11 ≤ w ∧ w ≤ 21 := by
      rw [hw] at c1
      have e1 : nI w < 11 ↔ w < 11 := nI_ltI (b := 11) (by omega) (by decide)
      have e2 : (21 : Int32) < nI w ↔ 21 < w := nI_ltI (a := 21) (by decide) (by omega)
      rw [e1, e2] at c1
      omega
    have e20 : w ≠ 20 := fun e => c (by rw [hw, e]; rfl)
    have ew : (y_wm a m q).toNatClampNeg = w := by rw [hw]; exact nI_clamp (by omega)
    have e18 : (y_wm a m q = 18 ∨ y_wm a m q = 19) ↔ (w = 18 ∨ w = 19) := by
      rw [hw, show (18 : Int32) = nI 18 from rfl, show (19 : Int32) = nI 19 from rfl, nI_eq (by omega) (by decide), nI_eq (by omega) (by decide)]
    rw [ew] at h1
    have no : ∀ j, j < 25 → nI j ≠ -1 := by decide +kernel
    have k2 := y_nxt_gt (a := a) (m := m) (q := q) (by rw [y_wm_sa (by rw [hw]; exact no w hw25)]; decide)
    have k1 := y_ordr_li hlo.1 hlo.2 e20 k2.2 h1
    have k3 := y_sgn_gt (by decide) (by decide) h2
    have r := y_RI_ln (b := decide (y_wm a m q = 18 ∨ y_wm a m q = 19)) hI (by have := hI.2.1; omega) (k1.2.1 _ _) ((k1.2.2.1 _ _).trans (e18.symm.trans decide_eq_true_iff.symm)) k1.2.2.2 (fun hb => by
      have hb := of_decide_eq_true hb
      have := hI.2.2.1
      have : S.2.2.2.1 ≠ 3 := fun e => c3 ⟨hb, e⟩
      omega)
    refine ⟨?_, by omega, k3.2⟩
    simp only [decide_eq_true_eq] at r
    exact r
theorem y_rns_S {a : Nat → Int32} {m : Nat} {N : Nat → Int64} {P K G j q : Nat} {S : xTr} (h : y_sa a m q ≠ 3) : y_rns a m N P K G (j + 1) S q = y_bd (y_rst a m N P K G S q) (fun z => y_rns a m N P K G j z.1 z.2) := if_neg h
theorem y_rns_3 {a : Nat → Int32} {m : Nat} {N : Nat → Int64} {P K G j q : Nat} {S : xTr} (h : y_sa a m q = 3) : y_rns a m N P K G j S q = if 0 < S.2.2.2.1 then .inl (y_fl a m q 2) else .inr S := by
  cases j with
  | zero => rfl
  | succ j => exact if_pos h
theorem y_rns_end {a : Nat → Int32} {m : Nat} {N : Nat → Int64} {P K G : Nat} : ∀ j (S : xTr) q S', y_RI P K G S → y_rns a m N P K G j S q = .inr S' → y_RI P K G S' ∧ S'.2.2.2.1 = 0
  | 0, S, q, S', hI, h => by
    have h : (if 0 < S.2.2.2.1 then (.inl (y_fl a m q 2) : xF xTr) else .inr S) = .inr S' := h
    by_cases c : 0 < S.2.2.2.1
    · rw [if_pos c] at h
      cases h
    · rw [if_neg c] at h
      cases h
      exact ⟨hI, by omega⟩
  | j + 1, S, q, S', hI, h => by
    by_cases e : y_sa a m q = 3
    · rw [y_rns_3 e] at h
      by_cases c : 0 < S.2.2.2.1
      · rw [if_pos c] at h
        cases h
      · rw [if_neg c] at h
        cases h
        exact ⟨hI, by omega⟩
    · rw [y_rns_S e] at h
      obtain ⟨z, hz, h⟩ := y_bd_inr h
      exact y_rns_end j z.1 z.2 S' (y_rst_ok hI hz).1 h
theorem y_ordr_er {a : Nat → Int32} {m : Nat} {N : Nat → Int64} {P K G w q : Nat} : ∀ e, y_ordr a m N P K G w q = .inl e → y_er e := by
  intro e h
  unfold y_ordr at h
  have deed : ∀ M b w q e, y_deed a m N P M b w q = .inl e → y_er e := fun M b w q e h => y_bd_er y_old_er (fun _ => y_bd_er y_old_er (fun _ => y_bd_er y_nbr_er (fun _ e h => by cases h))) e h
  have numb : ∀ o hi q e, y_numb a m o hi q = .inl e → y_er e := fun o hi q e h => y_bd_er y_nbr_er (fun _ e h => by cases h) e h
  by_cases c1 : w = 11 ∨ w = 14 ∨ w = 15
  · rw [if_pos c1] at h
    exact deed _ _ _ _ e h
  rw [if_neg c1] at h
  by_cases c2 : w = 12 ∨ w = 13
  · rw [if_pos c2] at h
    exact deed _ _ _ _ e h
  rw [if_neg c2] at h
  by_cases c3 : w = 16
  · rw [if_pos c3] at h
    exact numb _ _ _ e h
  rw [if_neg c3] at h
  by_cases c4 : w = 19
  · rw [if_pos c4] at h
    exact numb _ _ _ e h
  rw [if_neg c4] at h
  by_cases c5 : w = 18
  · rw [if_pos c5] at h
    unfold y_tst at h
    by_cases d : y_wm a m q = 22 ∨ y_wm a m q = 23 ∨ y_wm a m q = 24
    · rw [if_pos d] at h
      refine y_bd_er (fun e h => ?_) (fun u e h => ?_) e h
      · unfold y_obj at h
        by_cases d1 : y_wm a m q = 23
        · rw [if_pos d1] at h
          exact y_old_er e h
        · rw [if_neg d1] at h
          by_cases d2 : y_wm a m q = 24
          · rw [if_pos d2] at h
            exact y_old_er e h
          · rw [if_neg d2] at h
            cases h
      · by_cases d3 : y_tk a m u.2 = 60 ∨ y_tk a m u.2 = 62 ∨ y_tk a m u.2 = 61
        · rw [if_pos d3] at h
          exact y_bd_er y_nbr_er (fun _ e h => by cases h) e h
        · rw [if_neg d3] at h
          cases h
          exact y_fl_er a m _ (by decide) (by decide)
    · rw [if_neg d] at h
      cases h
      exact y_fl_er a m _ (by decide) (by decide)
  rw [if_neg c5] at h
  cases h
theorem y_rst_er {a : Nat → Int32} {m : Nat} {N : Nat → Int64} {P K G q : Nat} {S : xTr} : ∀ e, y_rst a m N P K G S q = .inl e → y_er e := by
  intro e h
  unfold y_rst at h
  by_cases c : y_wm a m q = 20
  · rw [if_pos c] at h
    by_cases d : S.2.2.2.1 = 0
    · rw [if_pos d] at h
      cases h
      exact y_fl_er a m q (by decide) (by decide)
    · rw [if_neg d] at h
      exact y_bd_er y_sgn_er (fun _ e h => by cases h) e h
  rw [if_neg c] at h
  by_cases c1 : y_wm a m q < 11 ∨ 21 < y_wm a m q
  · rw [if_pos c1] at h
    cases h
    exact y_fl_er a m q (by decide) (by decide)
  rw [if_neg c1] at h
  by_cases c2 : S.2.2.1 = 30
  · rw [if_pos c2] at h
    cases h
    exact y_fl_er a m q (by decide) (by decide)
  rw [if_neg c2] at h
  by_cases c3 : (y_wm a m q = 18 ∨ y_wm a m q = 19) ∧ S.2.2.2.1 = 3
  · rw [if_pos c3] at h
    cases h
    exact y_fl_er a m q (by decide) (by decide)
  rw [if_neg c3] at h
  exact y_bd_er y_ordr_er (fun _ => y_bd_er y_sgn_er (fun _ e h => by cases h)) e h
theorem y_rns_er {a : Nat → Int32} {m : Nat} {N : Nat → Int64} {P K G : Nat} : ∀ j (S : xTr) q e, y_rns a m N P K G j S q = .inl e → y_er e
  | 0, S, q, e, h => by
    have h : (if 0 < S.2.2.2.1 then (.inl (y_fl a m q 2) : xF xTr) else .inr S) = .inl e := h
    by_cases c : 0 < S.2.2.2.1
    · rw [if_pos c] at h
      cases h
      exact y_fl_er a m q (by decide) (by decide)
    · rw [if_neg c] at h
      cases h
  | j + 1, S, q, e, h => by
    by_cases w : y_sa a m q = 3
    · rw [y_rns_3 w] at h
      by_cases c : 0 < S.2.2.2.1
      · rw [if_pos c] at h
        cases h
        exact y_fl_er a m q (by decide) (by decide)
      · rw [if_neg c] at h
        cases h
    · rw [y_rns_S w] at h
      exact y_bd_er y_rst_er (fun w e h => y_rns_er j w.1 w.2 e h) e h
theorem g_rst {a b : Nat → Int32} {m : Nat} (h : ∀ k, k < m → a k = b k) : y_rst a m = y_rst b m := by
  funext N P K G S q
  unfold y_rst y_ordr y_deed y_numb y_tst y_obj
  simp only [g_wm h, g_nbr h, g_nxt h, g_fl h, g_sgn h, g_old h, g_tk h]
theorem g_rns {a b : Nat → Int32} {m : Nat} (h : ∀ k, k < m → a k = b k) {N : Nat → Int64} {P K G : Nat} : ∀ j S q, y_rns a m N P K G j S q = y_rns b m N P K G j S q
  | 0, S, q => by
    show (if 0 < S.2.2.2.1 then (.inl (y_fl a m q 2) : xF xTr) else .inr S) = (if 0 < S.2.2.2.1 then (.inl (y_fl b m q 2) : xF xTr) else .inr S)
    rw [g_fl h]
  | j + 1, S, q => by
    show (if y_sa a m q = 3 then (if 0 < S.2.2.2.1 then (.inl (y_fl a m q 2) : xF xTr) else .inr S) else y_bd (y_rst a m N P K G S q) (fun z => y_rns a m N P K G j z.1 z.2)) = (if y_sa b m q = 3 then (if 0 < S.2.2.2.1 then (.inl (y_fl b m q 2) : xF xTr) else .inr S) else y_bd (y_rst b m N P K G S q) (fun z => y_rns b m N P K G j z.1 z.2))
    rw [g_fl h, g_sa h, g_rst h]
    have e : (fun z : xTr × Nat => y_rns a m N P K G j z.1 z.2) = (fun z : xTr × Nat => y_rns b m N P K G j z.1 z.2) := funext fun z => g_rns h j z.1 z.2
    rw [e]
theorem g_reigns {a b : Nat → Int32} {m : Nat} (h : ∀ k, k < m → a k = b k) {N : Nat → Int64} {P K G : Nat} : y_reigns a N P K G m = y_reigns b N P K G m := by
  unfold y_reigns
  rw [g_rns h, g_skip h]
