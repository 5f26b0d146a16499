/-! READING, as functions of the tape: what is taken at the token q, and the token behind it; or the fault and its place -/
abbrev xF (α : Type) : Type := (Nat × Nat) ⊕ α
def y_bd {α β : Type} (x : xF α) (k : α → xF β) : xF β := match x with
  | .inl e => .inl e
  | .inr z => k z
theorem y_bd_inr {α β : Type} {x : xF α} {k : α → xF β} {z : β} (h : y_bd x k = .inr z) : ∃ w, x = .inr w ∧ k w = .inr z := by
  cases x with
  | inl e => cases h
  | inr w => exact ⟨w, rfl, h⟩
def y_fl (a : Nat → Int32) (m q k : Nat) : Nat × Nat := (if y_tk a m q = 4 then 1 else k, q)
def y_nv (a : Nat → Int32) (m q : Nat) : Nat := y_num a q (y_end a m q - q)
def y_lt (a : Nat → Int32) (m q : Nat) : Int64 := y_let a q (y_end a m q - q)
def y_nm (a : Nat → Int32) (m q : Nat) : Bool := decide (y_sa a m q = 1) && (decide (y_wm a m q = -1) && decide (y_end a m q - q ≤ 8))
def y_sgn (a : Nat → Int32) (m : Nat) (c : Int32) (q : Nat) : xF Nat := if y_tk a m q = c then .inr (y_nxt a m q) else .inl (y_fl a m q 2)
def y_wrd (a : Nat → Int32) (m : Nat) (w : Int32) (q : Nat) : xF Nat := if y_wm a m q = w then .inr (y_nxt a m q) else .inl (y_fl a m q 2)
def y_nbr (a : Nat → Int32) (m lo hi q : Nat) : xF (Nat × Nat) := if y_tk a m q = 2 then (if y_nv a m q < lo ∨ hi < y_nv a m q then .inl (y_fl a m q 4) else .inr (y_nv a m q, y_nxt a m q)) else .inl (y_fl a m q 2)
def y_fd (N : Nat → Int64) (l : Int64) (b : Nat) : Nat → Nat → Option Nat
  | 0, _ => none
  | n + 1, k => if N (b + k) = l then some k else y_fd N l b n (k + 1)
def y_old (a : Nat → Int32) (m : Nat) (N : Nat → Int64) (b many q : Nat) : xF (Nat × Nat) := if y_nm a m q = true then (match y_fd N (y_lt a m q) b many 0 with
  | none => .inl (y_fl a m q 3)
  | some k => .inr (k, y_nxt a m q)) else .inl (y_fl a m q 2)
/-- a name that is there already, of n0 kinds, n1 goods, n2 people -/
def y_tkn (N : Nat → Int64) (l : Int64) (n0 n1 n2 : Nat) : Bool := (y_fd N l 0 n0 0).isSome || ((y_fd N l 4 n1 0).isSome || (y_fd N l 9 n2 0).isSome)
def y_new (a : Nat → Int32) (m : Nat) (N : Nat → Int64) (n0 n1 n2 pl q : Nat) : xF ((Nat → Int64) × Nat) := if y_nm a m q = true then (if y_tkn N (y_lt a m q) n0 n1 n2 = true then .inl (y_fl a m q 3) else .inr (va_up N pl (y_lt a m q), y_nxt a m q)) else .inl (y_fl a m q 2)
/-- a word with its number that may be left out -/
def y_chc (a : Nat → Int32) (m : Nat) (w : Int32) (hi df q : Nat) : xF (Nat × Nat) := if y_wm a m q = w then y_nbr a m 0 hi (y_nxt a m q) else .inr (df, q)
abbrev xL : Type := xV × (Nat → Int64) × (Nat → Bool)
def y_rlo (i : Nat) : Nat := if i = 0 then 10 else 0
def y_rhi (i : Nat) : Nat := if i = 0 then 9999 else if i = 1 then 50 else 999
def y_rule (a : Nat → Int32) (m i : Nat) (S : xL) (q : Nat) : xF (xL × Nat) := if S.2.2 i = true then .inl (y_fl a m q 5) else y_bd (y_nbr a m (y_rlo i) (y_rhi i) (y_nxt a m q)) (fun z => y_bd (y_sgn a m 59 z.2) (fun q2 => .inr ((v_set S.1 (3 + i) 0 0 z.1, S.2.1, fun j => if j = i then true else S.2.2 j), q2)))
def y_kind (a : Nat → Int32) (m : Nat) (S : xL) (q : Nat) : xF (xL × Nat) := if S.1 0 0 0 = 4 then .inl (y_fl a m q 6) else y_bd (y_new a m S.2.1 (S.1 0 0 0) (S.1 1 0 0) (S.1 2 0 0) (S.1 0 0 0) (y_nxt a m q)) (fun z => y_bd (y_wrd a m 7 z.2) (fun q2 => y_bd (y_nbr a m 1 500 q2) (fun x => y_bd (y_sgn a m 59 x.2) (fun q3 => .inr ((v_set (v_set S.1 9 (S.1 0 0 0) 0 x.1) 0 0 0 (S.1 0 0 0 + 1), z.1, S.2.2), q3)))))
def y_good (a : Nat → Int32) (m : Nat) (S : xL) (q : Nat) : xF (xL × Nat) := if S.1 1 0 0 = 5 then .inl (y_fl a m q 6) else y_bd (y_new a m S.2.1 (S.1 0 0 0) (S.1 1 0 0) (S.1 2 0 0) (4 + S.1 1 0 0) (y_nxt a m q)) (fun z => y_bd (y_wrd a m 8 z.2) (fun q2 => y_bd (y_nbr a m 1 99 q2) (fun x => y_bd (y_chc a m 9 999 10 x.2) (fun y => y_bd (y_sgn a m 59 y.2) (fun q3 => .inr ((v_set (v_set (v_set S.1 10 (S.1 1 0 0) 0 x.1) 11 (S.1 1 0 0) 0 y.1) 1 0 0 (S.1 1 0 0 + 1), z.1, S.2.2), q3))))))
def y_pers (a : Nat → Int32) (m : Nat) (S : xL) (q : Nat) : xF (xL × Nat) := if S.1 2 0 0 = 5 then .inl (y_fl a m q 6) else y_bd (y_new a m S.2.1 (S.1 0 0 0) (S.1 1 0 0) (S.1 2 0 0) (9 + S.1 2 0 0) (y_nxt a m q)) (fun z => y_bd (y_chc a m 10 9999 0 z.2) (fun y => y_bd (y_sgn a m 59 y.2) (fun q3 => .inr ((v_set (v_set S.1 12 (S.1 2 0 0) 0 y.1) 2 0 0 (S.1 2 0 0 + 1), z.1, S.2.2), q3))))
def y_has (a : Nat → Int32) (m : Nat) (S : xL) (q : Nat) : xF (xL × Nat) := y_bd (y_old a m S.2.1 9 (S.1 2 0 0) (y_nxt a m q)) (fun z => y_bd (y_old a m S.2.1 0 (S.1 0 0 0) z.2) (fun y => y_bd (y_nbr a m 0 999 y.2) (fun x => y_bd (y_sgn a m 59 x.2) (fun q3 => .inr ((v_set S.1 13 z.1 y.1 x.1, S.2.1, S.2.2), q3)))))
def y_part (a : Nat → Int32) (m : Nat) (S : xL) (q : Nat) : xF (xL × Nat) := if y_wm a m q = 0 then y_rule a m 0 S q else if y_wm a m q = 1 then y_rule a m 1 S q else if y_wm a m q = 2 then y_rule a m 2 S q else if y_wm a m q = 3 then y_kind a m S q else if y_wm a m q = 4 then y_good a m S q else if y_wm a m q = 5 then y_pers a m S q else if y_wm a m q = 6 then y_has a m S q else .inl (y_fl a m q 2)
def y_parts (a : Nat → Int32) (m : Nat) : Nat → xL → Nat → xF xL
  | 0, S, _ => .inr S
  | n + 1, S, q => if y_sa a m q = 3 then .inr S else y_bd (y_part a m S q) (fun z => y_parts a m n z.1 z.2)
/-! the reading goes forward -/
theorem y_tk_sa {a : Nat → Int32} {m q : Nat} {c : Int32} (h : y_tk a m q = c) (hc : c ≠ 4) : y_sa a m q = c := by
  unfold y_tk at h
  by_cases e : y_sa a m q = 2 ∧ 4 < y_end a m q - q
  · rw [if_pos e] at h
    exact absurd h.symm hc
  · rw [if_neg e] at h
    exact h
theorem y_tk_3 {a : Nat → Int32} {m q : Nat} : y_tk a m q = 3 ↔ y_sa a m q = 3 := by
  constructor
  · intro h
    exact y_tk_sa h (by decide)
  · intro h
    unfold y_tk
    rw [if_neg (fun e => by rw [h] at e; exact absurd e.1 (by decide))]
    exact h
theorem y_wm_sa {a : Nat → Int32} {m q : Nat} (h : y_wm a m q ≠ -1) : y_sa a m q = 1 := by
  unfold y_wm at h
  by_cases e : y_sa a m q = 1
  · exact e
  · rw [if_neg e] at h
    exact absurd rfl h
theorem y_nm_sa {a : Nat → Int32} {m q : Nat} (h : y_nm a m q = true) : y_sa a m q = 1 ∧ y_wm a m q = -1 ∧ y_end a m q - q ≤ 8 := by
  unfold y_nm at h
  rw [Bool.and_eq_true, Bool.and_eq_true, decide_eq_true_eq, decide_eq_true_eq, decide_eq_true_eq] at h
  exact h
theorem y_nxt_gt {a : Nat → Int32} {m q : Nat} (h : y_sa a m q ≠ 3) : q < y_nxt a m q ∧ y_nxt a m q ≤ m := by
  have h1 := y_end_le h
  have h2 := y_skip_sp a h1.2
  unfold y_nxt
  omega
theorem y_sgn_gt {a : Nat → Int32} {m q q2 : Nat} {c : Int32} (hc : c ≠ 3) (h4 : c ≠ 4) (h : y_sgn a m c q = .inr q2) : q < q2 ∧ q2 ≤ m := by
  unfold y_sgn at h
  by_cases e : y_tk a m q = c
  · rw [if_pos e] at h
    cases h
    exact y_nxt_gt (by rw [y_tk_sa e h4]; exact hc)
  · rw [if_neg e] at h
    cases h
theorem y_wrd_gt {a : Nat → Int32} {m q q2 : Nat} {w : Int32} (hw : w ≠ -1) (h : y_wrd a m w q = .inr q2) : q < q2 ∧ q2 ≤ m := by
  unfold y_wrd at h
  by_cases e : y_wm a m q = w
  · rw [if_pos e] at h
    cases h
    exact y_nxt_gt (by rw [y_wm_sa (by rw [e]; exact hw)]; decide)
  · rw [if_neg e] at h
    cases h
theorem y_nbr_gt {a : Nat → Int32} {m lo hi q : Nat} {z : Nat × Nat} (h : y_nbr a m lo hi q = .inr z) : (q < z.2 ∧ z.2 ≤ m) ∧ lo ≤ z.1 ∧ z.1 ≤ hi := by
  unfold y_nbr at h
  by_cases e : y_tk a m q = 2
  · rw [if_pos e] at h
    by_cases e2 : y_nv a m q < lo ∨ hi < y_nv a m q
    · rw [if_pos e2] at h
      cases h
    · rw [if_neg e2] at h
      cases h
      exact ⟨y_nxt_gt (by rw [y_tk_sa e (by decide)]; decide), by show lo ≤ y_nv a m q; omega, by show y_nv a m q ≤ hi; omega⟩
  · rw [if_neg e] at h
    cases h
theorem y_fd_lt {N : Nat → Int64} {l : Int64} {b k : Nat} : ∀ n i, y_fd N l b n i = some k → i ≤ k ∧ k < i + n
  | 0, _, h => by cases h
  | n + 1, i, h => by
    by_cases e : N (b + i) = l
    · have h1 : y_fd N l b (n + 1) i = some i := if_pos e
      rw [h1] at h
      cases h
      omega
    · have h1 : y_fd N l b (n + 1) i = y_fd N l b n (i + 1) := if_neg e
      rw [h1] at h
      have := y_fd_lt n (i + 1) h
      omega
theorem y_fd_cg {N N' : Nat → Int64} {l : Int64} {b b' : Nat} : ∀ n i, (∀ k, i ≤ k → k < i + n → N (b + k) = N' (b' + k)) → y_fd N l b n i = y_fd N' l b' n i
  | 0, _, _ => rfl
  | n + 1, i, h => by
    show (if N (b + i) = l then _ else _) = (if N' (b' + i) = l then _ else _)
    rw [h i (Nat.le_refl _) (by omega), y_fd_cg n (i + 1) (fun k h1 h2 => h k (by omega) (by omega))]
theorem y_old_gt {a : Nat → Int32} {m : Nat} {N : Nat → Int64} {b many q : Nat} {z : Nat × Nat} (h : y_old a m N b many q = .inr z) : (q < z.2 ∧ z.2 ≤ m) ∧ z.1 < many := by
  unfold y_old at h
  by_cases e : y_nm a m q = true
  · rw [if_pos e] at h
    cases e2 : y_fd N (y_lt a m q) b many 0 with
    | none =>
      rw [e2] at h
      cases h
    | some k =>
      rw [e2] at h
      cases h
      have h3 := y_fd_lt _ _ e2
      exact ⟨y_nxt_gt (by rw [(y_nm_sa e).1]; decide), by show k < many; omega⟩
  · rw [if_neg e] at h
    cases h
theorem y_new_gt {a : Nat → Int32} {m : Nat} {N : Nat → Int64} {n0 n1 n2 pl q : Nat} {z : (Nat → Int64) × Nat} (h : y_new a m N n0 n1 n2 pl q = .inr z) : (q < z.2 ∧ z.2 ≤ m) ∧ z.1 = va_up N pl (y_lt a m q) := by
  unfold y_new at h
  by_cases e : y_nm a m q = true
  · rw [if_pos e] at h
    by_cases e2 : y_tkn N (y_lt a m q) n0 n1 n2 = true
    · rw [if_pos e2] at h
      cases h
    · rw [if_neg e2] at h
      cases h
      exact ⟨y_nxt_gt (by rw [(y_nm_sa e).1]; decide), rfl⟩
  · rw [if_neg e] at h
    cases h
theorem y_chc_gt {a : Nat → Int32} {m : Nat} {w : Int32} {hi df q : Nat} {z : Nat × Nat} (hw : w ≠ -1) (hd : df ≤ hi) (hq : q ≤ m) (h : y_chc a m w hi df q = .inr z) : (q ≤ z.2 ∧ z.2 ≤ m) ∧ z.1 ≤ hi := by
  unfold y_chc at h
  by_cases e : y_wm a m q = w
  · rw [if_pos e] at h
    have h1 := y_nbr_gt h
    have h2 := y_nxt_gt (a := a) (m := m) (q := q) (by rw [y_wm_sa (by rw [e]; exact hw)]; decide)
    omega
  · rw [if_neg e] at h
    cases h
    exact ⟨⟨Nat.le_refl _, hq⟩, hd⟩
