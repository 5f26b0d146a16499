/-! THE TOKENS, as numbers: a tape a of m bytes; a token by the place q where it begins -/
def y_run (P : Nat → Bool) : Nat → Nat → Nat
  | 0, p => p
  | n + 1, p => if P p = true then y_run P n (p + 1) else p
def y_iz (a : Nat → Int32) (m : Nat) (c : Int32) (k : Nat) : Bool := decide (k < m) && decide (y_sb (a k) = c)
def y_skip (a : Nat → Int32) (m p : Nat) : Nat := y_run (y_iz a m 5) (m - p) p
def y_end (a : Nat → Int32) (m q : Nat) : Nat := if y_sa a m q = 1 ∨ y_sa a m q = 2 then y_run (y_iz a m (y_sa a m q)) (m - q) q else q + 1
def y_nxt (a : Nat → Int32) (m q : Nat) : Nat := y_skip a m (y_end a m q)
def y_tk (a : Nat → Int32) (m q : Nat) : Int32 := if y_sa a m q = 2 ∧ 4 < y_end a m q - q then 4 else y_sa a m q
def y_num (a : Nat → Int32) (q : Nat) : Nat → Nat
  | 0 => 0
  | n + 1 => 10 * y_num a q n + ((a (q + n)).toNatClampNeg - 48)
def y_let (a : Nat → Int32) (q : Nat) : Nat → Int64
  | 0 => 0
  | n + 1 => (y_let a q n <<< ((Int8.ofInt 8).toInt32.toInt64 &&& 63)) ||| (a (q + n)).toInt64
def y_val (a : Nat → Int32) (q : Nat) : Nat → Nat
  | 0 => 0
  | n + 1 => 256 * y_val a q n + (a (q + n)).toNatClampNeg
/-- a byte, as an int -/
def y_byt (x : Int32) : Prop := ∃ k : Nat, k < 256 ∧ x = Int32.ofInt ((k : Int) - 128)
theorem y_run_t {P : Nat → Bool} {m p : Nat} (hP : P p = true) (hm : p < m) : y_run P (m - p) p = y_run P (m - (p + 1)) (p + 1) := by
  have e : m - p = (m - (p + 1)) + 1 := by omega
  rw [e]
  exact if_pos hP
theorem y_run_f {P : Nat → Bool} {n p : Nat} (hP : P p = false) : y_run P n p = p := by
  cases n with
  | zero => rfl
  | succ n =>
    refine if_neg (fun q => ?_)
    rw [hP] at q
    cases q
theorem y_run_sp {P : Nat → Bool} {m : Nat} (hm : ∀ k, P k = true → k < m) : ∀ j p, m - p = j → p ≤ m → p ≤ y_run P (m - p) p ∧ y_run P (m - p) p ≤ m ∧ (∀ k, p ≤ k → k < y_run P (m - p) p → P k = true) ∧ P (y_run P (m - p) p) = false := by
  intro j
  induction j with
  | zero =>
    intro p h1 h2
    have hf : P p = false := by
      cases h : P p with
      | false => rfl
      | true => exact absurd (hm p h) (by omega)
    rw [y_run_f hf]
    exact ⟨Nat.le_refl _, h2, fun k q1 q2 => absurd q1 (by omega), hf⟩
  | succ j ih =>
    intro p h1 h2
    cases h : P p with
    | false =>
      rw [y_run_f h]
      exact ⟨Nat.le_refl _, h2, fun k q1 q2 => absurd q1 (by omega), h⟩
    | true =>
      rw [y_run_t h (hm p h)]
      obtain ⟨i1, i2, i3, i4⟩ := ih (p + 1) (by omega) (by omega)
      refine ⟨by omega, i2, fun k q1 q2 => ?_, i4⟩
      by_cases e : k = p
      · rw [e]
        exact h
      · exact i3 k (by omega) q2
theorem y_iz_lt {a : Nat → Int32} {m : Nat} {c : Int32} (k : Nat) (h : y_iz a m c k = true) : k < m := by
  unfold y_iz at h
  rw [Bool.and_eq_true, decide_eq_true_eq] at h
  exact h.1
theorem y_iz_t {a : Nat → Int32} {m : Nat} {c : Int32} {k : Nat} (h1 : k < m) (h2 : y_sa a m k = c) : y_iz a m c k = true := by
  unfold y_sa at h2
  rw [if_pos h1] at h2
  unfold y_iz
  rw [Bool.and_eq_true, decide_eq_true_eq, decide_eq_true_eq]
  exact ⟨h1, h2⟩
theorem y_iz_f {a : Nat → Int32} {m : Nat} {c : Int32} {k : Nat} (h : ¬ (k < m ∧ y_sa a m k = c)) : y_iz a m c k = false := by
  cases e : y_iz a m c k with
  | false => rfl
  | true =>
    have h1 := y_iz_lt k e
    refine absurd ⟨h1, ?_⟩ h
    unfold y_iz at e
    rw [Bool.and_eq_true, decide_eq_true_eq, decide_eq_true_eq] at e
    unfold y_sa
    rw [if_pos h1]
    exact e.2
theorem y_skip_sp (a : Nat → Int32) {m p : Nat} (h : p ≤ m) : p ≤ y_skip a m p ∧ y_skip a m p ≤ m := by
  have e := y_run_sp (P := y_iz a m 5) y_iz_lt (m - p) p rfl h
  exact ⟨e.1, e.2.1⟩
theorem y_sa_lt {a : Nat → Int32} {m q : Nat} (h : y_sa a m q ≠ 3) : q < m := by
  unfold y_sa at h
  by_cases e : q < m
  · exact e
  · rw [if_neg e] at h
    exact absurd rfl h
theorem y_end_le {a : Nat → Int32} {m q : Nat} (h : y_sa a m q ≠ 3) : q < y_end a m q ∧ y_end a m q ≤ m := by
  have h1 := y_sa_lt h
  unfold y_end
  by_cases e : y_sa a m q = 1 ∨ y_sa a m q = 2
  · rw [if_pos e]
    have e2 := y_run_sp (P := y_iz a m (y_sa a m q)) y_iz_lt (m - q) q rfl (by omega)
    refine ⟨?_, e2.2.1⟩
    by_cases e3 : q < y_run (y_iz a m (y_sa a m q)) (m - q) q
    · exact e3
    · have e4 : y_run (y_iz a m (y_sa a m q)) (m - q) q = q := by omega
      have e5 := e2.2.2.2
      rw [e4, y_iz_t h1 rfl] at e5
      cases e5
  · rw [if_neg e]
    omega
theorem y_end_in {a : Nat → Int32} {m q : Nat} (e : y_sa a m q = 1 ∨ y_sa a m q = 2) (h1 : q ≤ m) : ∀ k, q ≤ k → k < y_end a m q → k < m ∧ y_sb (a k) = y_sa a m q := by
  intro k h2 h3
  unfold y_end at h3
  rw [if_pos e] at h3
  have e2 := (y_run_sp (P := y_iz a m (y_sa a m q)) y_iz_lt (m - q) q rfl h1).2.2.1 k h2 h3
  unfold y_iz at e2
  rw [Bool.and_eq_true, decide_eq_true_eq, decide_eq_true_eq] at e2
  exact e2
theorem y_bf0 : ∀ k : Nat, k < 256 → ((Int32.ofInt ((k : Int) - 128) &&& 255 = 32 ∨ Int32.ofInt ((k : Int) - 128) &&& 255 = 10) ↔ y_sb (Int32.ofInt ((k : Int) - 128)) = 5) ∧ ((¬ Int32.ofInt ((k : Int) - 128) &&& 255 < 97 ∧ ¬ 122 < Int32.ofInt ((k : Int) - 128) &&& 255) ↔ y_sb (Int32.ofInt ((k : Int) - 128)) = 1) ∧ ((¬ Int32.ofInt ((k : Int) - 128) &&& 255 < 48 ∧ ¬ 57 < Int32.ofInt ((k : Int) - 128) &&& 255) ↔ y_sb (Int32.ofInt ((k : Int) - 128)) = 2) ∧ ¬ (Int32.ofInt ((k : Int) - 128) &&& 255 = -1) := by decide +kernel
theorem y_bf1 : ∀ k : Nat, k < 256 → (y_sb (Int32.ofInt ((k : Int) - 128)) = 1 → 97 ≤ (Int32.ofInt ((k : Int) - 128)).toNatClampNeg ∧ (Int32.ofInt ((k : Int) - 128)).toNatClampNeg ≤ 122 ∧ Int32.ofInt ((k : Int) - 128) = nI (Int32.ofInt ((k : Int) - 128)).toNatClampNeg ∧ Int32.ofInt ((k : Int) - 128) &&& 255 = Int32.ofInt ((k : Int) - 128)) ∧ (y_sb (Int32.ofInt ((k : Int) - 128)) = 2 → 48 ≤ (Int32.ofInt ((k : Int) - 128)).toNatClampNeg ∧ (Int32.ofInt ((k : Int) - 128)).toNatClampNeg ≤ 57 ∧ Int32.ofInt ((k : Int) - 128) = nI (Int32.ofInt ((k : Int) - 128)).toNatClampNeg ∧ Int32.ofInt ((k : Int) - 128) &&& 255 = Int32.ofInt ((k : Int) - 128)) := by decide +kernel
theorem y_bf2 : ∀ k : Nat, k < 256 → (Int32.ofInt ((k : Int) - 128) &&& 255 = 59 ∨ Int32.ofInt ((k : Int) - 128) &&& 255 = 60 ∨ Int32.ofInt ((k : Int) - 128) &&& 255 = 62 ∨ Int32.ofInt ((k : Int) - 128) &&& 255 = 61 → y_sb (Int32.ofInt ((k : Int) - 128)) = Int32.ofInt ((k : Int) - 128) &&& 255) ∧ (¬ (Int32.ofInt ((k : Int) - 128) &&& 255 = 59 ∨ Int32.ofInt ((k : Int) - 128) &&& 255 = 60 ∨ Int32.ofInt ((k : Int) - 128) &&& 255 = 62 ∨ Int32.ofInt ((k : Int) - 128) &&& 255 = 61) → y_sb (Int32.ofInt ((k : Int) - 128)) = 1 ∨ y_sb (Int32.ofInt ((k : Int) - 128)) = 2 ∨ y_sb (Int32.ofInt ((k : Int) - 128)) = 4 ∨ y_sb (Int32.ofInt ((k : Int) - 128)) = 5) := by decide +kernel
theorem y_b_blank {x : Int32} (h : y_byt x) : (x &&& 255 = 32 ∨ x &&& 255 = 10) ↔ y_sb x = 5 := by
  obtain ⟨k, hk, rfl⟩ := h
  exact (y_bf0 k hk).1
theorem y_b_small {x : Int32} (h : y_byt x) : (¬ x &&& 255 < 97 ∧ ¬ 122 < x &&& 255) ↔ y_sb x = 1 := by
  obtain ⟨k, hk, rfl⟩ := h
  exact (y_bf0 k hk).2.1
theorem y_b_digit {x : Int32} (h : y_byt x) : (¬ x &&& 255 < 48 ∧ ¬ 57 < x &&& 255) ↔ y_sb x = 2 := by
  obtain ⟨k, hk, rfl⟩ := h
  exact (y_bf0 k hk).2.2.1
theorem y_b_not {x : Int32} (h : y_byt x) : ¬ (x &&& 255 = -1) := by
  obtain ⟨k, hk, rfl⟩ := h
  exact (y_bf0 k hk).2.2.2
theorem y_b_1 {x : Int32} (h : y_byt x) (e : y_sb x = 1) : 97 ≤ x.toNatClampNeg ∧ x.toNatClampNeg ≤ 122 ∧ x = nI x.toNatClampNeg ∧ x &&& 255 = x := by
  obtain ⟨k, hk, rfl⟩ := h
  exact (y_bf1 k hk).1 e
theorem y_b_2 {x : Int32} (h : y_byt x) (e : y_sb x = 2) : 48 ≤ x.toNatClampNeg ∧ x.toNatClampNeg ≤ 57 ∧ x = nI x.toNatClampNeg ∧ x &&& 255 = x := by
  obtain ⟨k, hk, rfl⟩ := h
  exact (y_bf1 k hk).2 e
theorem y_b_sg {x : Int32} (h : y_byt x) (e : x &&& 255 = 59 ∨ x &&& 255 = 60 ∨ x &&& 255 = 62 ∨ x &&& 255 = 61) : y_sb x = x &&& 255 := by
  obtain ⟨k, hk, rfl⟩ := h
  exact (y_bf2 k hk).1 e
theorem y_b_ns {x : Int32} (h : y_byt x) (e : ¬ (x &&& 255 = 59 ∨ x &&& 255 = 60 ∨ x &&& 255 = 62 ∨ x &&& 255 = 61)) : y_sb x = 1 ∨ y_sb x = 2 ∨ y_sb x = 4 ∨ y_sb x = 5 := by
  obtain ⟨k, hk, rfl⟩ := h
  exact (y_bf2 k hk).2 e
theorem y_nb_byt (x : Int32) : y_byt (y_nb x) := by
  unfold y_nb
  obtain ⟨z, hz⟩ : ∃ z : Int8, z = x.toInt8.toInt32.toInt8 := ⟨_, rfl⟩
  rw [← hz]
  have h1 : -128 ≤ z.toInt := Int8.le_toInt z
  have h2 : z.toInt < 128 := Int8.toInt_lt z
  refine ⟨(z.toInt + 128).toNat, by omega, Int32.toInt_inj.mp ?_⟩
  have h3 : (((z.toInt + 128).toNat : Nat) : Int) - 128 = z.toInt := by omega
  rw [h3, Int8.toInt_toInt32, Int32.toInt_ofInt_of_le (by omega) (by omega)]
/-! words as numbers -/
theorem y_sh8 {v b : Nat} (hv : v < 2 ^ 56) (hb : b < 256) : (lN v <<< ((Int8.ofInt 8).toInt32.toInt64 &&& 63)) ||| lN b = lN (256 * v + b) := by
  apply Int64.toBitVec_inj.mp
  apply BitVec.eq_of_toNat_eq
  rw [Int64.toBitVec_or, BitVec.toNat_or]
  have e0 : ∀ z : Nat, z < 2 ^ 64 → (lN z).toBitVec.toNat = z := fun z hz => Nat.mod_eq_of_lt hz
  have e1 : (lN v <<< ((Int8.ofInt 8).toInt32.toInt64 &&& 63)).toBitVec.toNat = v <<< 8 := by
    show ((lN v).toBitVec <<< (((Int8.ofInt 8).toInt32.toInt64 &&& 63).toBitVec.smod 64).toNat).toNat = _
    have e2 : (((Int8.ofInt 8).toInt32.toInt64 &&& 63).toBitVec.smod 64).toNat = 8 := by decide
    rw [e2, BitVec.toNat_shiftLeft, e0 v (by omega)]
    refine Nat.mod_eq_of_lt ?_
    rw [Nat.shiftLeft_eq]
    omega
  rw [e1, e0 b (by omega), e0 _ (by omega), ← Nat.shiftLeft_add_eq_or_of_lt (show b < 2 ^ 8 from hb), Nat.shiftLeft_eq]
  omega
theorem y_val_lt {a : Nat → Int32} {q : Nat} : ∀ n, (∀ k, k < n → (a (q + k)).toNatClampNeg < 256) → y_val a q n < 256 ^ n
  | 0, _ => Nat.one_pos
  | n + 1, h => by
    have h1 := y_val_lt n (fun k hk => h k (by omega))
    have h2 := h n (by omega)
    show 256 * y_val a q n + (a (q + n)).toNatClampNeg < 256 ^ (n + 1)
    rw [Nat.pow_succ]
    omega
theorem y_let_val {a : Nat → Int32} {q : Nat} : ∀ n, n ≤ 8 → (∀ k, k < n → 97 ≤ (a (q + k)).toNatClampNeg ∧ (a (q + k)).toNatClampNeg ≤ 122 ∧ a (q + k) = nI (a (q + k)).toNatClampNeg) → y_let a q n = lN (y_val a q n)
  | 0, _, _ => rfl
  | n + 1, h8, h => by
    have h1 := y_let_val n (by omega) (fun k hk => h k (by omega))
    obtain ⟨h2, h3, h4⟩ := h n (by omega)
    have h5 := y_val_lt (a := a) (q := q) n (fun k hk => by have := h k (by omega); omega)
    have h6 : 256 ^ n ≤ 256 ^ 7 := Nat.pow_le_pow_right (by decide) (by omega)
    have h7 : (a (q + n)).toInt64 = lN (a (q + n)).toNatClampNeg := by
      rw [h4, nI_l (by omega), nI_clamp (by omega)]
    show (y_let a q n <<< ((Int8.ofInt 8).toInt32.toInt64 &&& 63)) ||| (a (q + n)).toInt64 = lN (256 * y_val a q n + (a (q + n)).toNatClampNeg)
    rw [h1, h7, y_sh8 (by omega) (by omega)]
theorem y_val_inj {a b : Nat → Int32} {q s : Nat} : ∀ n l, (∀ k, k < n → 1 ≤ (a (q + k)).toNatClampNeg ∧ (a (q + k)).toNatClampNeg < 256) → (∀ k, k < l → 1 ≤ (b (s + k)).toNatClampNeg ∧ (b (s + k)).toNatClampNeg < 256) → y_val a q n = y_val b s l → n = l ∧ ∀ k, k < n → (a (q + k)).toNatClampNeg = (b (s + k)).toNatClampNeg
  | 0, 0, _, _, _ => ⟨rfl, fun k h => absurd h (Nat.not_lt_zero _)⟩
  | 0, l + 1, _, h, e => by
    have h1 := h l (by omega)
    have e : 0 = 256 * y_val b s l + (b (s + l)).toNatClampNeg := e
    omega
  | n + 1, 0, h, _, e => by
    have h1 := h n (by omega)
    have e : 256 * y_val a q n + (a (q + n)).toNatClampNeg = 0 := e
    omega
  | n + 1, l + 1, h, g, e => by
    have h1 := h n (by omega)
    have g1 := g l (by omega)
    have e : 256 * y_val a q n + (a (q + n)).toNatClampNeg = 256 * y_val b s l + (b (s + l)).toNatClampNeg := e
    obtain ⟨i1, i2⟩ := y_val_inj n l (fun k hk => h k (by omega)) (fun k hk => g k (by omega)) (by omega)
    subst i1
    refine ⟨rfl, fun k hk => ?_⟩
    by_cases q1 : k = n
    · rw [q1]
      omega
    · exact i2 k (by omega)
theorem y_val_cg {a b : Nat → Int32} {q s : Nat} : ∀ n, (∀ k, k < n → a (q + k) = b (s + k)) → y_val a q n = y_val b s n
  | 0, _ => rfl
  | n + 1, h => by
    show 256 * y_val a q n + (a (q + n)).toNatClampNeg = 256 * y_val b s n + (b (s + n)).toNatClampNeg
    rw [y_val_cg n (fun k hk => h k (by omega)), h n (by omega)]
/-! the words of the language: places and lengths in the model's text -/
def y_kb (j : Nat) : Int32 := x_key.getD j 0
def y_ks : List Nat := [1, 6, 10, 14, 19, 24, 31, 35, 41, 47, 53, 60, 64, 68, 73, 78, 83, 89, 93, 98, 103, 107, 112, 118, 124]
def y_kl : List Nat := [4, 3, 3, 4, 4, 6, 3, 5, 5, 5, 6, 3, 3, 4, 4, 4, 5, 3, 4, 4, 3, 4, 5, 5, 4]
def y_kv (w : Nat) : Nat := y_val y_kb (y_ks.getD w 0) (y_kl.getD w 0)
def y_fw (v : Nat) : Nat → Nat → Int32
  | 0, _ => -1
  | n + 1, w => if v = y_kv w then nI w else y_fw v n (w + 1)
def y_wf (l : Int64) : Nat → Int32
  | 0 => -1
  | i + 1 => if x_wds.getD i 0 = l then nI i else y_wf l i
def y_trl : List Int32 := [0, 1, 2, 3, 5, 8, 10, 4, 6, 7, 9, 11, 12, 13, 14, 15, 16, 17, 18, 22, 23, 24, 19, 20, 21]
/-- the model's number of a word, as the class's -/
def y_tr (x : Int32) : Int32 := if x = -1 then -1 else y_trl.getD x.toNatClampNeg 0
theorem y_kf : ∀ w, w < 25 → y_ks.getD (w + 1) 0 = (if w = 24 then 0 else y_ks.getD w 0 + y_kl.getD w 0 + 1) ∧ y_ks.getD w 0 + y_kl.getD w 0 < 129 ∧ y_kb (y_ks.getD w 0 + y_kl.getD w 0) = 32 ∧ y_kl.getD w 0 ≤ 6 ∧ 1 ≤ y_kl.getD w 0 := by decide +kernel
theorem y_kf2 : ∀ w, w < 25 → ∀ k, k < 7 → k < y_kl.getD w 0 → ¬ y_kb (y_ks.getD w 0 + k) = 32 ∧ 97 ≤ (y_kb (y_ks.getD w 0 + k)).toNatClampNeg ∧ (y_kb (y_ks.getD w 0 + k)).toNatClampNeg ≤ 122 ∧ y_kb (y_ks.getD w 0 + k) = nI (y_kb (y_ks.getD w 0 + k)).toNatClampNeg := by decide +kernel
theorem y_kf3 : ∀ w, w < 25 → y_wf (lN (y_kv w)) 25 = y_tr (nI w) ∧ y_fw (y_kv w) 25 0 = nI w ∧ y_kv w < 2 ^ 64 := by decide +kernel
theorem y_kf4 : ∀ i, i < 25 → x_wds.getD i 0 = lN (y_kv ([0, 1, 2, 3, 7, 4, 8, 9, 5, 10, 6, 11, 12, 13, 14, 15, 16, 17, 18, 22, 23, 24, 19, 20, 21].getD i 0)) ∧ [0, 1, 2, 3, 7, 4, 8, 9, 5, 10, 6, 11, 12, 13, 14, 15, 16, 17, 18, 22, 23, 24, 19, 20, 21].getD i 0 < 25 := by decide +kernel
theorem y_fw_no {v : Nat} : ∀ n w, w + n = 25 → (∀ i, i < 25 → v ≠ y_kv i) → y_fw v n w = -1
  | 0, _, _, _ => rfl
  | n + 1, w, h, e => (if_neg (e w (by omega))).trans (y_fw_no n (w + 1) (by omega) e)
theorem y_wf_no {l : Int64} : ∀ n, (∀ i, i < n → x_wds.getD i 0 ≠ l) → y_wf l n = -1
  | 0, _ => rfl
  | n + 1, e => (if_neg (e n (by omega))).trans (y_wf_no n (fun i hi => e i (by omega)))
theorem lN_inj {x y : Nat} (hx : x < 2 ^ 64) (hy : y < 2 ^ 64) (h : lN x = lN y) : x = y := by
  have e0 : ∀ z : Nat, z < 2 ^ 64 → (lN z).toBitVec.toNat = z := fun z hz => Nat.mod_eq_of_lt hz
  have e := congrArg (fun z : Int64 => z.toBitVec.toNat) h
  rw [← e0 x hx, ← e0 y hy]
  exact e
theorem y_wr {v : Nat} (h : v < 2 ^ 64) : y_wf (lN v) 25 = y_tr (y_fw v 25 0) := by
  by_cases e : ∃ w, w < 25 ∧ v = y_kv w
  · obtain ⟨w, hw, rfl⟩ := e
    rw [(y_kf3 w hw).1, (y_kf3 w hw).2.1]
  · have e1 : ∀ i, i < 25 → v ≠ y_kv i := fun i hi q => e ⟨i, hi, q⟩
    rw [y_fw_no 25 0 rfl e1, y_wf_no 25 (fun i hi q => by
      obtain ⟨k1, k2⟩ := y_kf4 i hi
      rw [k1] at q
      exact e1 _ k2 (lN_inj h (y_kf3 _ k2).2.2 q.symm))]
    rfl
theorem y_fw_rg {v : Nat} : ∀ n w, w + n = 25 → y_fw v n w = -1 ∨ ∃ i, i < 25 ∧ y_fw v n w = nI i ∧ v = y_kv i
  | 0, _, _ => Or.inl rfl
  | n + 1, w, h => by
    by_cases e : v = y_kv w
    · exact Or.inr ⟨w, by omega, if_pos e, e⟩
    · have e2 : y_fw v (n + 1) w = y_fw v n (w + 1) := if_neg e
      rw [e2]
      exact y_fw_rg n (w + 1) (by omega)
/-- which word the token at q is, by the model's numbers, or -1 -/
def y_wm (a : Nat → Int32) (m q : Nat) : Int32 := if y_sa a m q = 1 then y_fw (y_val a q (y_end a m q - q)) 25 0 else -1
theorem y_wm_rg (a : Nat → Int32) (m q : Nat) : y_wm a m q = -1 ∨ ∃ i, i < 25 ∧ y_wm a m q = nI i := by
  unfold y_wm
  by_cases e : y_sa a m q = 1
  · rw [if_pos e]
    rcases y_fw_rg (v := y_val a q (y_end a m q - q)) 25 0 rfl with h | ⟨i, h1, h2, -⟩
    · exact Or.inl h
    · exact Or.inr ⟨i, h1, h2⟩
  · rw [if_neg e]
    exact Or.inl rfl
/-- the letters of a token that is a word -/
theorem y_lts {a : Nat → Int32} {m q : Nat} (hb : ∀ k, k < m → y_byt (a k)) (e : y_sa a m q = 1) : ∀ k, k < y_end a m q - q → 97 ≤ (a (q + k)).toNatClampNeg ∧ (a (q + k)).toNatClampNeg ≤ 122 ∧ a (q + k) = nI (a (q + k)).toNatClampNeg ∧ a (q + k) &&& 255 = a (q + k) := by
  intro k hk
  have h1 := y_sa_lt (a := a) (m := m) (q := q) (by rw [e]; decide)
  obtain ⟨h2, h3⟩ := y_end_in (Or.inl e) (by omega) (q + k) (by omega) (by omega)
  rw [e] at h3
  exact y_b_1 (hb _ h2) h3
theorem y_dgs {a : Nat → Int32} {m q : Nat} (hb : ∀ k, k < m → y_byt (a k)) (e : y_sa a m q = 2) : ∀ k, k < y_end a m q - q → 48 ≤ (a (q + k)).toNatClampNeg ∧ (a (q + k)).toNatClampNeg ≤ 57 ∧ a (q + k) = nI (a (q + k)).toNatClampNeg ∧ a (q + k) &&& 255 = a (q + k) := by
  intro k hk
  have h1 := y_sa_lt (a := a) (m := m) (q := q) (by rw [e]; decide)
  obtain ⟨h2, h3⟩ := y_end_in (Or.inr e) (by omega) (q + k) (by omega) (by omega)
  rw [e] at h3
  exact y_b_2 (hb _ h2) h3
/-- a word of more than eight letters is none of the language -/
theorem y_wm_far {a : Nat → Int32} {m q : Nat} (hb : ∀ k, k < m → y_byt (a k)) (e : y_sa a m q = 1) (h : 8 < y_end a m q - q) : y_wm a m q = -1 := by
  unfold y_wm
  rw [if_pos e]
  rcases y_fw_rg (v := y_val a q (y_end a m q - q)) 25 0 rfl with h1 | ⟨i, h1, h2, h3⟩
  · exact h1
  · have h4 := y_val_inj (a := a) (b := y_kb) (q := q) (s := y_ks.getD i 0) (y_end a m q - q) (y_kl.getD i 0) (fun k hk => by have := y_lts hb e k hk; omega) (fun k hk => by
      have := (y_kf i h1).2.2.2.1
      have := y_kf2 i h1 k (by omega) hk
      omega) h3
    have := (y_kf i h1).2.2.2.1
    omega
theorem y_wc_eq {a : Nat → Int32} {m q : Nat} (hb : ∀ k, k < m → y_byt (a k)) (e : y_sa a m q = 1) : (if y_end a m q - q ≤ 8 then y_wf (y_let a q (y_end a m q - q)) 25 else -1) = y_tr (y_wm a m q) := by
  by_cases h : y_end a m q - q ≤ 8
  · rw [if_pos h]
    unfold y_wm
    rw [if_pos e, y_let_val _ h (fun k hk => by have := y_lts hb e k hk; exact ⟨this.1, this.2.1, this.2.2.1⟩)]
    refine y_wr ?_
    have h5 := y_val_lt (a := a) (q := q) (y_end a m q - q) (fun k hk => by have := y_lts hb e k hk; omega)
    have h6 : 256 ^ (y_end a m q - q) ≤ 256 ^ 8 := Nat.pow_le_pow_right (by decide) (by omega)
    omega
  · rw [if_neg h, y_wm_far hb e (by omega)]
    rfl
