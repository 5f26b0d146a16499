/-! a code table's entries, checked; the evaluation is sound -/
def x_len : Instr → Nat
  | .bipush _ => 2
  | .sipush _ => 3
  | .ldc _ => 2
  | .ldc_w _ => 3
  | .ldc2_w _ => 3
  | .iload _ => 2
  | .lload _ => 2
  | .aload _ => 2
  | .istore _ => 2
  | .lstore _ => 2
  | .astore _ => 2
  | .iinc _ _ => 3
  | .goto _ => 3
  | .ifCond _ _ => 3
  | .if_icmp _ _ => 3
  | .getfield _ => 3
  | .putfield _ => 3
  | .getstatic _ => 3
  | .new _ => 3
  | .newarray _ => 2
  | .anewarray _ => 3
  | .invokevirtual _ => 3
  | .invokestatic _ => 3
  | .invokespecial _ => 3
  | _ => 1
def x_okI (i pc : Nat) (ins : Instr) (a b : Nat) : Bool := match ins with
  | .getfield ix => x_isF (x_ow i) ix a b
  | .putfield ix => x_isF (x_ow i) ix a b && (!(x_TT a b).2.2.2 || (decide ((x_y i).name = "<init>") && decide ((x_TT a b).1 = x_own i)))
  | .goto off => decide ((pc : Int) + off = a)
  | .ifCond _ off => decide ((pc : Int) + off = a)
  | .if_icmp _ off => decide ((pc : Int) + off = a)
  | .ldc ix => a != 1 || (ix == 177 && x_ow i == 10)
  | .getstatic ix => x_isS (x_ow i) ix a
  | .new ix => x_isC (x_ow i) ix a
  | .anewarray ix => x_isC (x_ow i) ix a && (a == 8 || (a == 0 || a == 4))
  | .newarray t => x_at t != 99
  | .invokevirtual ix => match b with
    | 9 => x_ow i == 10 && ((a == 1 && ix == 144) || (a == 2 && ix == 150))
    | _ => (decide (a < 328) && (x_kd a == 3 && decide (x_ow a < 11))) && (x_isM (x_ow i) ix a || x_isN (x_ow i) ix a)
  | .invokestatic ix => match b with
    | 9 => x_isJ (x_ow i) ix a
    | _ => (decide (a < 328) && x_kd a == 1) && (x_isM (x_ow i) ix a || x_isN (x_ow i) ix a)
  | .invokespecial ix => match b with
    | 9 => x_isJ (x_ow i) ix 6
    | _ => (decide (a < 328) && (x_kd a == 2 && (decide ((x_y a).name = "<init>") && decide (x_rt a = none)))) && (x_isM (x_ow i) ix a || x_isN (x_ow i) ix a)
  | _ => true
def x_okT (i pc : Nat) (ins : Instr) : Bool := match ins with
  | .tableswitch df lo hi os => (match decode (x_bc i) pc with
    | .ok (ins', _) => decide (ins' = .tableswitch df lo hi os)
    | _ => false) && (decide (0 ≤ (pc : Int) + df) && (os.toList.all (fun z => decide (0 ≤ (pc : Int) + z)) && decide ((os.toList.length : Int) = hi - lo + 1)))
  | _ => decide (decode (x_bc i) pc = .ok (ins, x_len ins))
def x_okE (i : Nat) (e : xE) : Bool := x_okT i e.1 e.2.1 && x_okI i e.1 e.2.1 e.2.2.1 e.2.2.2
theorem x_fl_inv : ∀ {l : List (Option Value)} {k : List (Option Value) → Prop}, x_fl l k → k l
  | [], _, h => h
  | a :: l, k, h => x_fl_inv (l := l) (k := fun l' => k (a :: l')) h
theorem x_fh_inv {h : xH} {k : (Nat → Nat → Int32) → (Nat → Nat → Int64) → (Nat → Nat → Option Nat) → List Nat → Nat → Prop} (hk : x_fh h k) : k (x_i h) (x_l h) (x_r h) (x_d h) (x_n h) := by
  obtain ⟨f, g, q, m, n⟩ := h
  exact hk
theorem x_d4_inv {d : Nat} {r : List Value} {P : Prop} (h : x_d4 d r P) : 4 ≤ d ∧ (r.map fun v => v.category).sum ≤ 8 ∧ P := by
  unfold x_d4 at h
  split at h
  · obtain ⟨h1, h2⟩ := x_b_inv h
    exact ⟨by omega, of_decide_eq_true h1, h2⟩
  · exact h.elim
theorem x_tsw_at {pc : Nat} {x : Int32} {k : Nat → Prop} : ∀ {os : List Int} {lo : Int} {j : Nat} {z : Int}, x_tsw pc x lo os k → os[j]? = some z → x.toInt = lo + j → k ((pc : Int) + z).toNat
  | [], lo, j, z, _, h2, _ => by simp at h2
  | q :: os, lo, 0, z, h, h2, h3 => by
    simp at h2
    subst h2
    exact h.1 (by simpa using h3)
  | q :: os, lo, j + 1, z, h, h2, h3 => x_tsw_at (os := os) (lo := lo + 1) (j := j) h.2 (by simpa using h2) (by rw [h3]; push_cast; omega)
theorem x_SH1_all : x_SH1.all (fun q => decide (q.1 < 121)) = true := by decide +kernel
theorem x_SH2_all : x_SH2.all (fun q => decide (q.1 < 121)) = true := by decide +kernel
theorem x_getD_lt {l : List (Nat × Nat)} (hl : l.all (fun q => decide (q.1 < 121)) = true) (k : Nat) : (l.getD k (0, 0)).1 < 121 := by
  rw [List.getD_eq_getElem?_getD]
  cases hq : l[k]? with
  | none => decide
  | some q => exact of_decide_eq_true (List.all_eq_true.mp hl q (List.mem_of_getElem? hq))
theorem x_SH_lt (k : Nat) : (x_SH k).1 < 121 := by
  unfold x_SH
  split
  · exact x_getD_lt x_SH1_all k
  · exact x_getD_lt x_SH2_all _
  · split <;> decide
section XS
variable {SI : Nat → Option (Nat × (Nat → Int32))} {i d : Nat} {R : Room} {RT : Option Value → xH → Nat → Nat → Prop} {QQ : xQ}
theorem x_cal_ok {pc a ix : Nat} {lv : List (Option Value)} {st : List Value} {h : xH} {cs ss : Nat} {nx : xK} (hc : x_cal d R pc a lv st h cs ss nx) : ∃ (d' : Nat) (P : Option Value → xH → Prop) (As r : List Value), d = d' + 1 ∧ x_Ct a d' As h P ∧ st = As.reverse ++ r ∧ As.length = x_na a ∧ (r.map fun v => v.category).sum ≤ 8 ∧ (cs + x_mc a ≤ R.cells ∧ ss + x_ms a ≤ R.slots) ∧ (x_kd a = 2 → ∃ k As', As = .ref k :: As') ∧ (x_kd a = 3 → ∃ k As', As = .ref k :: As' ∧ (x_SH k).1 = x_ow a) ∧ ∀ (q : Option Value) (h' : xH), P q h' → nx (pc + 3) lv (q.toList ++ r) h' (cs + x_mc a) (ss + x_ms a) := by
  unfold x_cal at hc
  cases d with
  | zero => exact hc.elim
  | succ d' =>
    obtain ⟨P, h1, h2, h3⟩ := hc
    obtain ⟨h4, h5⟩ := x_b_inv h2
    unfold x_stk at h4
    simp only [Bool.and_eq_true, decide_eq_true_eq] at h4
    obtain ⟨g1, g2, g3⟩ := h4
    refine ⟨d', P, (st.take (x_na a)).reverse, st.drop (x_na a), rfl, h1, by rw [List.reverse_reverse, List.take_append_drop], by simp; omega, g2, h5, fun hk => ?_, fun hk => ?_, h3⟩
    · rw [hk] at g3
      simp only at g3
      split at g3
      · rename_i e; exact ⟨_, _, e⟩
      · cases g3
    · rw [hk] at g3
      simp only at g3
      split at g3
      · rename_i e; exact ⟨_, _, e, by simpa using g3⟩
      · cases g3
theorem x_ins_ok {pc a b : Nat} {ins : Instr} {lv : List (Option Value)} {st : List Value} {h : xH} {cs ss : Nat} {nx jp : xK} (hsub : ∀ k q, x_SI k = some q → SI k = some q) (hd : d ≤ R.frames ∧ 64 * d ≤ R.locals)
    (hRi : ∀ pc lv v h cs ss, decode (x_bc i) pc = .ok (.ireturn, 1) → RT (some (.int v)) h cs ss → x_G SI i R QQ pc lv [.int v] h cs ss)
    (hRl : ∀ pc lv v h cs ss, decode (x_bc i) pc = .ok (.lreturn, 1) → RT (some (.long v)) h cs ss → x_G SI i R QQ pc lv [.long v] h cs ss)
    (hRv : ∀ pc lv h cs ss, decode (x_bc i) pc = .ok (.return_, 1) → RT none h cs ss → x_G SI i R QQ pc lv [] h cs ss)
    (hN : ∀ pc lv st h cs ss, nx pc lv st h cs ss → x_G SI i R QQ pc lv st h cs ss) (hJ : ∀ pc lv st h cs ss, jp pc lv st h cs ss → x_G SI i R QQ pc lv st h cs ss)
    (hT : x_okT i pc ins = true) (hok : x_okI i pc ins a b = true) (hI : x_ins SI i d R RT pc ins a b lv st h cs ss nx jp) : x_G SI i R QQ pc lv st h cs ss := by
  cases ins with
  | iconst n => exact x_pure1 (hN _ _ _ _ _ _ hI) (fun dm hs => x_okS_c (x_ok1_i _ _) hs) (fun p l e s m args below meth c H locs Q ls ad hx hb _ _ _ k => lv_iconst hx hb (of_decide_eq_true hT) rfl k)
  | bipush n => exact x_pure1 (hN _ _ _ _ _ _ hI) (fun dm hs => x_okS_c (x_ok1_i _ _) hs) (fun p l e s m args below meth c H locs Q ls ad hx hb _ _ _ k => lv_bipush hx hb (of_decide_eq_true hT) rfl k)
  | sipush n => exact x_pure1 (hN _ _ _ _ _ _ hI) (fun dm hs => x_okS_c (x_ok1_i _ _) hs) (fun p l e s m args below meth c H locs Q ls ad hx hb _ _ _ k => lv_sipush hx hb (of_decide_eq_true hT) rfl k)
  | lconst n => exact x_pure1 (hN _ _ _ _ _ _ hI) (fun dm hs => x_okS_c (x_ok1_l _ _) hs) (fun p l e s m args below meth c H locs Q ls ad hx hb _ _ _ k => lv_lconst hx hb (of_decide_eq_true hT) rfl k)
  | ldc ix =>
    have hdg : decode (x_bc i) pc = .ok (.ldc ix, 2) := of_decide_eq_true hT
    by_cases ha : a = 1
    · subst ha
      simp only [x_okI, Bool.or_eq_true, bne_iff_ne, ne_eq, not_true_eq_false, false_or, Bool.and_eq_true, beq_iff_eq] at hok
      obtain ⟨rfl, ho⟩ := hok
      exact x_r_ldcS ho hdg (hN _ _ _ _ _ _ hI)
    · have hI2 : x_opt (x_kf (x_ow i) ix) (fun e => nx (pc + 2) lv (.int e.2.2.1 :: st) h cs ss) := by
        simp only [x_ins] at hI
        first | exact hI | (split at hI; exact absurd rfl ha; exact hI)
      obtain ⟨e, he, h1⟩ := x_opt_inv hI2
      exact x_pure1 (hN _ _ _ _ _ _ h1) (fun dm hs => x_okS_c (x_ok1_i _ _) hs) (fun p l e s m args below meth c H locs Q ls ad hx hb ho ht _ k => lv_ldc hx hb ho (ht _ (x_kf_ok he)) hdg k)
  | ldc_w ix =>
    obtain ⟨e, he, h1⟩ := x_opt_inv hI
    exact x_pure1 (hN _ _ _ _ _ _ h1) (fun dm hs => x_okS_c (x_ok1_i _ _) hs) (fun p l e s m args below meth c H locs Q ls ad hx hb ho ht _ k => lv_ldcw hx hb ho (ht _ (x_kf_ok he)) (of_decide_eq_true hT) k)
  | ldc2_w ix =>
    obtain ⟨e, he, h1⟩ := x_opt_inv hI
    exact x_pure1 (hN _ _ _ _ _ _ h1) (fun dm hs => x_okS_c (x_ok1_l _ _) hs) (fun p l e s m args below meth c H locs Q ls ad hx hb ho ht _ k => lv_ldc2 hx hb ho (ht _ (x_lf_ok he)) (of_decide_eq_true hT) k)
  | iload k =>
    obtain ⟨x, hx0, h1⟩ := x_ldI_inv hI
    exact x_pure1 (hN _ _ _ _ _ _ h1) (fun dm hs => x_okS_c (x_ok1_i _ _) hs) (fun p l e s m args below meth c H locs Q ls ad hx hb _ _ hL k => lv_iload hx hb (of_decide_eq_true hT) (hL.2.2.2 _ _ hx0) k)
  | iload_n k =>
    obtain ⟨x, hx0, h1⟩ := x_ldI_inv hI
    exact x_pure1 (hN _ _ _ _ _ _ h1) (fun dm hs => x_okS_c (x_ok1_i _ _) hs) (fun p l e s m args below meth c H locs Q ls ad hx hb _ _ hL k => lv_iload_n hx hb (of_decide_eq_true hT) rfl (hL.2.2.2 _ _ hx0) k)
  | lload k =>
    obtain ⟨x, hx0, h1⟩ := x_ldL_inv hI
    exact x_pure1 (hN _ _ _ _ _ _ h1) (fun dm hs => x_okS_c (x_ok1_l _ _) hs) (fun p l e s m args below meth c H locs Q ls ad hx hb _ _ hL k => lv_lload hx hb (of_decide_eq_true hT) (hL.2.2.2 _ _ hx0) k)
  | lload_n k =>
    obtain ⟨x, hx0, h1⟩ := x_ldL_inv hI
    exact x_pure1 (hN _ _ _ _ _ _ h1) (fun dm hs => x_okS_c (x_ok1_l _ _) hs) (fun p l e s m args below meth c H locs Q ls ad hx hb _ _ hL k => lv_lload_n hx hb (of_decide_eq_true hT) rfl (hL.2.2.2 _ _ hx0) k)
  | aload k =>
    obtain ⟨x, hx0, h1⟩ := x_ldA_inv hI
    intro l p e s m args below meth c D A dm0 ad0 C ad ac H locs ls hR hag hdm hcs hss hS hL hst hlv
    exact lv_aload C.1 C.2.1 (of_decide_eq_true hT) (hL.2.2.2 _ _ hx0) (hN _ _ _ _ _ _ h1 l p e s m args below meth c D A dm0 ad0 C ad ac H locs ls hR hag hdm hcs hss hS hL (x_okS_c (hlv _ (List.mem_of_getElem? hx0)) hst) hlv)
  | aload_n k =>
    obtain ⟨x, hx0, h1⟩ := x_ldA_inv hI
    intro l p e s m args below meth c D A dm0 ad0 C ad ac H locs ls hR hag hdm hcs hss hS hL hst hlv
    exact lv_aload_n C.1 C.2.1 (of_decide_eq_true hT) rfl (hL.2.2.2 _ _ hx0) (hN _ _ _ _ _ _ h1 l p e s m args below meth c D A dm0 ad0 C ad ac H locs ls hR hag hdm hcs hss hS hL (x_okS_c (hlv _ (List.mem_of_getElem? hx0)) hst) hlv)
  | istore k =>
    obtain ⟨x, r, rfl, h0⟩ := x_s1_inv hI
    obtain ⟨hk, h1⟩ := x_b_inv h0
    have hk := of_decide_eq_true hk
    have h1 := x_fl_inv h1
    exact x_r_st1 (len := 0) hk (hN _ _ _ _ _ _ h1) (fun dm hs => x_okS_t hs) (fun dm _ _ => x_ok1_i _ _) (fun p l e s m args below meth c H locs Q ls ad hx hb hL k => lv_istore hx hb (of_decide_eq_true hT) (x_L_has hL) (by rw [← hL.1]; exact hk) rfl k)
  | lstore k =>
    obtain ⟨x, r, rfl, h0⟩ := x_j1_inv hI
    obtain ⟨hk, h1⟩ := x_b_inv h0
    have hk := of_decide_eq_true hk
    have h1 := x_fl_inv h1
    exact x_r_st2 (hN _ _ _ _ _ _ h1) (fun dm hs => x_okS_t hs) (fun dm _ => x_ok1_l _ _) (fun p l e s m args below meth c H locs Q ls ad hx hb hL k => lv_lstore hx hb (of_decide_eq_true hT) (x_L_has hL) (by rw [← hL.1]; exact hk) rfl k)
  | astore k =>
    obtain ⟨x, r, rfl, h0⟩ := x_a1_inv hI
    obtain ⟨hk, h1⟩ := x_b_inv h0
    have hk := of_decide_eq_true hk
    have h1 := x_fl_inv h1
    exact x_r_st1 (len := 0) hk (hN _ _ _ _ _ _ h1) (fun dm hs => x_okS_t hs) (fun dm hs _ => x_okS_h hs) (fun p l e s m args below meth c H locs Q ls ad hx hb hL k => lv_astore hx hb (of_decide_eq_true hT) (x_L_has hL) (by rw [← hL.1]; exact hk) rfl k)
  | istore_n k =>
    obtain ⟨x, r, rfl, h0⟩ := x_s1_inv hI
    obtain ⟨hk, h1⟩ := x_b_inv h0
    have hk := of_decide_eq_true hk
    have h1 := x_fl_inv h1
    exact x_r_st1 (len := 0) hk (hN _ _ _ _ _ _ h1) (fun dm hs => x_okS_t hs) (fun dm _ _ => x_ok1_i _ _) (fun p l e s m args below meth c H locs Q ls ad hx hb hL k => lv_istore_n hx hb (of_decide_eq_true hT) rfl (x_L_has hL) (by rw [← hL.1]; exact hk) rfl k)
  | lstore_n k =>
    obtain ⟨x, r, rfl, h0⟩ := x_j1_inv hI
    obtain ⟨hk, h1⟩ := x_b_inv h0
    have hk := of_decide_eq_true hk
    have h1 := x_fl_inv h1
    exact x_r_st2 (hN _ _ _ _ _ _ h1) (fun dm hs => x_okS_t hs) (fun dm _ => x_ok1_l _ _) (fun p l e s m args below meth c H locs Q ls ad hx hb hL k => lv_lstore_n hx hb (of_decide_eq_true hT) rfl (x_L_has hL) (by rw [← hL.1]; exact hk) rfl k)
  | astore_n k =>
    obtain ⟨x, r, rfl, h0⟩ := x_a1_inv hI
    obtain ⟨hk, h1⟩ := x_b_inv h0
    have hk := of_decide_eq_true hk
    have h1 := x_fl_inv h1
    exact x_r_st1 (len := 0) hk (hN _ _ _ _ _ _ h1) (fun dm hs => x_okS_t hs) (fun dm hs _ => x_okS_h hs) (fun p l e s m args below meth c H locs Q ls ad hx hb hL k => lv_astore_n hx hb (of_decide_eq_true hT) rfl (x_L_has hL) (by rw [← hL.1]; exact hk) rfl k)
  | iinc k n =>
    obtain ⟨x, hx0, h0⟩ := x_ldI_inv hI
    obtain ⟨hk, h1⟩ := x_b_inv h0
    have hk := of_decide_eq_true hk
    have h1 := x_fl_inv h1
    refine x_r_st1 (len := 0) hk (hN _ _ _ _ _ _ h1) (fun dm hs => hs) (fun dm _ _ => x_ok1_i _ _) (fun p l e s m args below meth c H locs Q ls ad hx hb hL kk => ?_)
    obtain ⟨j, hj⟩ := List.getElem?_of_mem (x_as_mem (ad := ad) (q := (k, .int x)).mpr ⟨.int x, hx0, rfl⟩)
    exact lv_iinc hx hb (of_decide_eq_true hT) (x_L_has hL) hj rfl (by rw [← hL.1]; exact hk) rfl kk
  | iadd =>
    obtain ⟨x, y, r, rfl, h1⟩ := x_s2_inv hI
    exact x_pure1 (hN _ _ _ _ _ _ h1) (fun dm hs => x_okS_c (x_ok1_i _ _) (x_okS_t (x_okS_t hs))) (fun p l e s m args below meth c H locs Q ls ad hx hb _ _ _ k => lv_iadd hx hb (of_decide_eq_true hT) k)
  | isub =>
    obtain ⟨x, y, r, rfl, h1⟩ := x_s2_inv hI
    exact x_pure1 (hN _ _ _ _ _ _ h1) (fun dm hs => x_okS_c (x_ok1_i _ _) (x_okS_t (x_okS_t hs))) (fun p l e s m args below meth c H locs Q ls ad hx hb _ _ _ k => lv_isub hx hb (of_decide_eq_true hT) k)
  | imul =>
    obtain ⟨x, y, r, rfl, h1⟩ := x_s2_inv hI
    exact x_pure1 (hN _ _ _ _ _ _ h1) (fun dm hs => x_okS_c (x_ok1_i _ _) (x_okS_t (x_okS_t hs))) (fun p l e s m args below meth c H locs Q ls ad hx hb _ _ _ k => lv_imul hx hb (of_decide_eq_true hT) k)
  | iand =>
    obtain ⟨x, y, r, rfl, h1⟩ := x_s2_inv hI
    exact x_pure1 (hN _ _ _ _ _ _ h1) (fun dm hs => x_okS_c (x_ok1_i _ _) (x_okS_t (x_okS_t hs))) (fun p l e s m args below meth c H locs Q ls ad hx hb _ _ _ k => lv_iand hx hb (of_decide_eq_true hT) k)
  | ior =>
    obtain ⟨x, y, r, rfl, h1⟩ := x_s2_inv hI
    exact x_pure1 (hN _ _ _ _ _ _ h1) (fun dm hs => x_okS_c (x_ok1_i _ _) (x_okS_t (x_okS_t hs))) (fun p l e s m args below meth c H locs Q ls ad hx hb _ _ _ k => lv_ior hx hb (of_decide_eq_true hT) k)
  | ishl =>
    obtain ⟨x, y, r, rfl, h1⟩ := x_s2_inv hI
    exact x_pure1 (hN _ _ _ _ _ _ h1) (fun dm hs => x_okS_c (x_ok1_i _ _) (x_okS_t (x_okS_t hs))) (fun p l e s m args below meth c H locs Q ls ad hx hb _ _ _ k => lv_ishl hx hb (of_decide_eq_true hT) k)
  | ishr =>
    obtain ⟨x, y, r, rfl, h1⟩ := x_s2_inv hI
    exact x_pure1 (hN _ _ _ _ _ _ h1) (fun dm hs => x_okS_c (x_ok1_i _ _) (x_okS_t (x_okS_t hs))) (fun p l e s m args below meth c H locs Q ls ad hx hb _ _ _ k => lv_ishr hx hb (of_decide_eq_true hT) k)
  | idiv =>
    obtain ⟨x, y, r, rfl, h0, h1⟩ := x_s2_inv hI
    exact x_pure1 (hN _ _ _ _ _ _ h1) (fun dm hs => x_okS_c (x_ok1_i _ _) (x_okS_t (x_okS_t hs))) (fun p l e s m args below meth c H locs Q ls ad hx hb _ _ _ k => lv_idiv hx hb (of_decide_eq_true hT) h0 k)
  | irem =>
    obtain ⟨x, y, r, rfl, h0, h1⟩ := x_s2_inv hI
    exact x_pure1 (hN _ _ _ _ _ _ h1) (fun dm hs => x_okS_c (x_ok1_i _ _) (x_okS_t (x_okS_t hs))) (fun p l e s m args below meth c H locs Q ls ad hx hb _ _ _ k => lv_irem hx hb (of_decide_eq_true hT) h0 k)
  | ineg =>
    obtain ⟨x, r, rfl, h1⟩ := x_s1_inv hI
    exact x_pure1 (hN _ _ _ _ _ _ h1) (fun dm hs => x_okS_c (x_ok1_i _ _) (x_okS_t hs)) (fun p l e s m args below meth c H locs Q ls ad hx hb _ _ _ k => lv_ineg hx hb (of_decide_eq_true hT) k)
  | ladd =>
    obtain ⟨x, y, r, rfl, h1⟩ := x_j2_inv hI
    exact x_pure1 (hN _ _ _ _ _ _ h1) (fun dm hs => x_okS_c (x_ok1_l _ _) (x_okS_t (x_okS_t hs))) (fun p l e s m args below meth c H locs Q ls ad hx hb _ _ _ k => lv_ladd hx hb (of_decide_eq_true hT) k)
  | lsub =>
    obtain ⟨x, y, r, rfl, h1⟩ := x_j2_inv hI
    exact x_pure1 (hN _ _ _ _ _ _ h1) (fun dm hs => x_okS_c (x_ok1_l _ _) (x_okS_t (x_okS_t hs))) (fun p l e s m args below meth c H locs Q ls ad hx hb _ _ _ k => lv_lsub hx hb (of_decide_eq_true hT) k)
  | lmul =>
    obtain ⟨x, y, r, rfl, h1⟩ := x_j2_inv hI
    exact x_pure1 (hN _ _ _ _ _ _ h1) (fun dm hs => x_okS_c (x_ok1_l _ _) (x_okS_t (x_okS_t hs))) (fun p l e s m args below meth c H locs Q ls ad hx hb _ _ _ k => lv_lmul hx hb (of_decide_eq_true hT) k)
  | land =>
    obtain ⟨x, y, r, rfl, h1⟩ := x_j2_inv hI
    exact x_pure1 (hN _ _ _ _ _ _ h1) (fun dm hs => x_okS_c (x_ok1_l _ _) (x_okS_t (x_okS_t hs))) (fun p l e s m args below meth c H locs Q ls ad hx hb _ _ _ k => lv_land hx hb (of_decide_eq_true hT) k)
  | lor =>
    obtain ⟨x, y, r, rfl, h1⟩ := x_j2_inv hI
    exact x_pure1 (hN _ _ _ _ _ _ h1) (fun dm hs => x_okS_c (x_ok1_l _ _) (x_okS_t (x_okS_t hs))) (fun p l e s m args below meth c H locs Q ls ad hx hb _ _ _ k => lv_lor hx hb (of_decide_eq_true hT) k)
  | ldiv =>
    obtain ⟨x, y, r, rfl, h0, h1⟩ := x_j2_inv hI
    exact x_pure1 (hN _ _ _ _ _ _ h1) (fun dm hs => x_okS_c (x_ok1_l _ _) (x_okS_t (x_okS_t hs))) (fun p l e s m args below meth c H locs Q ls ad hx hb _ _ _ k => lv_ldiv hx hb (of_decide_eq_true hT) h0 k)
  | lrem =>
    obtain ⟨x, y, r, rfl, h0, h1⟩ := x_j2_inv hI
    exact x_pure1 (hN _ _ _ _ _ _ h1) (fun dm hs => x_okS_c (x_ok1_l _ _) (x_okS_t (x_okS_t hs))) (fun p l e s m args below meth c H locs Q ls ad hx hb _ _ _ k => lv_lrem hx hb (of_decide_eq_true hT) h0 k)
  | lshl =>
    obtain ⟨x, y, r, rfl, h1⟩ := x_ij_inv hI
    exact x_pure1 (hN _ _ _ _ _ _ h1) (fun dm hs => x_okS_c (x_ok1_l _ _) (x_okS_t (x_okS_t hs))) (fun p l e s m args below meth c H locs Q ls ad hx hb _ _ _ k => lv_lshl hx hb (of_decide_eq_true hT) rfl k)
  | lshr =>
    obtain ⟨x, y, r, rfl, h1⟩ := x_ij_inv hI
    exact x_pure1 (hN _ _ _ _ _ _ h1) (fun dm hs => x_okS_c (x_ok1_l _ _) (x_okS_t (x_okS_t hs))) (fun p l e s m args below meth c H locs Q ls ad hx hb _ _ _ k => lv_lshr hx hb (of_decide_eq_true hT) rfl k)
  | lcmp =>
    obtain ⟨x, y, r, rfl, h1⟩ := x_j2_inv hI
    exact x_pure1 (hN _ _ _ _ _ _ h1) (fun dm hs => x_okS_c (x_ok1_i _ _) (x_okS_t (x_okS_t hs))) (fun p l e s m args below meth c H locs Q ls ad hx hb _ _ _ k => W.lcmp hx hb (of_decide_eq_true hT) k)
  | i2l =>
    obtain ⟨x, r, rfl, h1⟩ := x_s1_inv hI
    exact x_pure1 (hN _ _ _ _ _ _ h1) (fun dm hs => x_okS_c (x_ok1_l _ _) (x_okS_t hs)) (fun p l e s m args below meth c H locs Q ls ad hx hb _ _ _ k => lv_i2l hx hb (of_decide_eq_true hT) rfl k)
  | l2i =>
    obtain ⟨x, r, rfl, h1⟩ := x_j1_inv hI
    exact x_pure1 (hN _ _ _ _ _ _ h1) (fun dm hs => x_okS_c (x_ok1_i _ _) (x_okS_t hs)) (fun p l e s m args below meth c H locs Q ls ad hx hb _ _ _ k => lv_l2i hx hb (of_decide_eq_true hT) rfl k)
  | i2b =>
    obtain ⟨x, r, rfl, h1⟩ := x_s1_inv hI
    exact x_pure1 (hN _ _ _ _ _ _ h1) (fun dm hs => x_okS_c (x_ok1_i _ _) (x_okS_t hs)) (fun p l e s m args below meth c H locs Q ls ad hx hb _ _ _ k => lv_i2b hx hb (of_decide_eq_true hT) rfl k)
  | i2s =>
    obtain ⟨x, r, rfl, h1⟩ := x_s1_inv hI
    exact x_pure1 (hN _ _ _ _ _ _ h1) (fun dm hs => x_okS_c (x_ok1_i _ _) (x_okS_t hs)) (fun p l e s m args below meth c H locs Q ls ad hx hb _ _ _ k => lv_i2s hx hb (of_decide_eq_true hT) rfl k)
  | dup =>
    obtain ⟨v, r, rfl, hc, h1⟩ := x_v1_inv hI
    exact x_pure1 (hN _ _ _ _ _ _ h1) (fun dm hs => x_okS_c (x_okS_h hs) hs) (fun p l e s m args below meth c H locs Q ls ad hx hb _ _ _ k => lv_dup hx hb (of_decide_eq_true hT) (by rw [x_cv_cat]; exact hc) k)
  | pop =>
    obtain ⟨v, r, rfl, hc, h1⟩ := x_v1_inv hI
    exact x_pure1 (hN _ _ _ _ _ _ h1) (fun dm hs => x_okS_t hs) (fun p l e s m args below meth c H locs Q ls ad hx hb _ _ _ k => lv_pop hx hb (of_decide_eq_true hT) (by rw [x_cv_cat]; exact hc) k)
  | dup2 =>
    obtain ⟨v, w, r, rfl, hc, hc2, h1⟩ := x_v2_inv hI
    exact x_pure1 (hN _ _ _ _ _ _ h1) (fun dm hs => x_okS_c (x_okS_h hs) (x_okS_c (x_okS_h (x_okS_t hs)) hs)) (fun p l e s m args below meth c H locs Q ls ad hx hb _ _ _ k => lv_dup2_11 hx hb (of_decide_eq_true hT) (by rw [x_cv_cat]; exact hc) (by rw [x_cv_cat]; exact hc2) k)
  | goto off =>
    have ht : (pc : Int) + off = (a : Int) := of_decide_eq_true hok
    exact x_pure1 (hJ _ _ _ _ _ _ hI) (fun dm hs => hs) (fun p l e s m args below meth c H locs Q ls ad hx hb _ _ _ k => lv_goto hx hb (of_decide_eq_true hT) ht k)
  | ifCond cn off =>
    have ht : (pc : Int) + off = (a : Int) := of_decide_eq_true hok
    obtain ⟨x, r, rfl, h1⟩ := x_s1_inv hI
    intro l p e s m args below meth c D A dm0 ad0 C ad ac H locs ls hR hag hdm hcs hss hS hL hst hlv
    cases cn with
    | eq => exact lv_if_eq C.1 C.2.1 (of_decide_eq_true hT) ht (fun q => hJ _ _ _ _ _ _ (h1.1 q) l p e s m args below meth c D A dm0 ad0 C ad ac H locs ls hR hag hdm hcs hss hS hL (x_okS_t hst) hlv) (fun q => hN _ _ _ _ _ _ (h1.2 q) l p e s m args below meth c D A dm0 ad0 C ad ac H locs ls hR hag hdm hcs hss hS hL (x_okS_t hst) hlv)
    | ne => exact lv_if_ne C.1 C.2.1 (of_decide_eq_true hT) ht (fun q => hJ _ _ _ _ _ _ (h1.1 q) l p e s m args below meth c D A dm0 ad0 C ad ac H locs ls hR hag hdm hcs hss hS hL (x_okS_t hst) hlv) (fun q => hN _ _ _ _ _ _ (h1.2 q) l p e s m args below meth c D A dm0 ad0 C ad ac H locs ls hR hag hdm hcs hss hS hL (x_okS_t hst) hlv)
    | lt => exact lv_if_lt C.1 C.2.1 (of_decide_eq_true hT) ht (fun q => hJ _ _ _ _ _ _ (h1.1 q) l p e s m args below meth c D A dm0 ad0 C ad ac H locs ls hR hag hdm hcs hss hS hL (x_okS_t hst) hlv) (fun q => hN _ _ _ _ _ _ (h1.2 q) l p e s m args below meth c D A dm0 ad0 C ad ac H locs ls hR hag hdm hcs hss hS hL (x_okS_t hst) hlv)
    | ge => exact lv_if_ge C.1 C.2.1 (of_decide_eq_true hT) ht (fun q => hJ _ _ _ _ _ _ (h1.1 q) l p e s m args below meth c D A dm0 ad0 C ad ac H locs ls hR hag hdm hcs hss hS hL (x_okS_t hst) hlv) (fun q => hN _ _ _ _ _ _ (h1.2 q) l p e s m args below meth c D A dm0 ad0 C ad ac H locs ls hR hag hdm hcs hss hS hL (x_okS_t hst) hlv)
    | gt => exact lv_if_gt C.1 C.2.1 (of_decide_eq_true hT) ht (fun q => hJ _ _ _ _ _ _ (h1.1 q) l p e s m args below meth c D A dm0 ad0 C ad ac H locs ls hR hag hdm hcs hss hS hL (x_okS_t hst) hlv) (fun q => hN _ _ _ _ _ _ (h1.2 q) l p e s m args below meth c D A dm0 ad0 C ad ac H locs ls hR hag hdm hcs hss hS hL (x_okS_t hst) hlv)
    | le => exact lv_if_le C.1 C.2.1 (of_decide_eq_true hT) ht (fun q => hJ _ _ _ _ _ _ (h1.1 q) l p e s m args below meth c D A dm0 ad0 C ad ac H locs ls hR hag hdm hcs hss hS hL (x_okS_t hst) hlv) (fun q => hN _ _ _ _ _ _ (h1.2 q) l p e s m args below meth c D A dm0 ad0 C ad ac H locs ls hR hag hdm hcs hss hS hL (x_okS_t hst) hlv)
  | if_icmp cn off =>
    have ht : (pc : Int) + off = (a : Int) := of_decide_eq_true hok
    obtain ⟨x, y, r, rfl, h1⟩ := x_s2_inv hI
    intro l p e s m args below meth c D A dm0 ad0 C ad ac H locs ls hR hag hdm hcs hss hS hL hst hlv
    cases cn with
    | eq => exact lv_icmp_eq C.1 C.2.1 (of_decide_eq_true hT) ht (fun q => hJ _ _ _ _ _ _ (h1.1 q) l p e s m args below meth c D A dm0 ad0 C ad ac H locs ls hR hag hdm hcs hss hS hL (x_okS_t (x_okS_t hst)) hlv) (fun q => hN _ _ _ _ _ _ (h1.2 q) l p e s m args below meth c D A dm0 ad0 C ad ac H locs ls hR hag hdm hcs hss hS hL (x_okS_t (x_okS_t hst)) hlv)
    | ne => exact lv_icmp_ne C.1 C.2.1 (of_decide_eq_true hT) ht (fun q => hJ _ _ _ _ _ _ (h1.1 q) l p e s m args below meth c D A dm0 ad0 C ad ac H locs ls hR hag hdm hcs hss hS hL (x_okS_t (x_okS_t hst)) hlv) (fun q => hN _ _ _ _ _ _ (h1.2 q) l p e s m args below meth c D A dm0 ad0 C ad ac H locs ls hR hag hdm hcs hss hS hL (x_okS_t (x_okS_t hst)) hlv)
    | lt => exact lv_icmp_lt C.1 C.2.1 (of_decide_eq_true hT) ht (fun q => hJ _ _ _ _ _ _ (h1.1 q) l p e s m args below meth c D A dm0 ad0 C ad ac H locs ls hR hag hdm hcs hss hS hL (x_okS_t (x_okS_t hst)) hlv) (fun q => hN _ _ _ _ _ _ (h1.2 q) l p e s m args below meth c D A dm0 ad0 C ad ac H locs ls hR hag hdm hcs hss hS hL (x_okS_t (x_okS_t hst)) hlv)
    | ge => exact lv_icmp_ge C.1 C.2.1 (of_decide_eq_true hT) ht (fun q => hJ _ _ _ _ _ _ (h1.1 q) l p e s m args below meth c D A dm0 ad0 C ad ac H locs ls hR hag hdm hcs hss hS hL (x_okS_t (x_okS_t hst)) hlv) (fun q => hN _ _ _ _ _ _ (h1.2 q) l p e s m args below meth c D A dm0 ad0 C ad ac H locs ls hR hag hdm hcs hss hS hL (x_okS_t (x_okS_t hst)) hlv)
    | gt => exact lv_icmp_gt C.1 C.2.1 (of_decide_eq_true hT) ht (fun q => hJ _ _ _ _ _ _ (h1.1 q) l p e s m args below meth c D A dm0 ad0 C ad ac H locs ls hR hag hdm hcs hss hS hL (x_okS_t (x_okS_t hst)) hlv) (fun q => hN _ _ _ _ _ _ (h1.2 q) l p e s m args below meth c D A dm0 ad0 C ad ac H locs ls hR hag hdm hcs hss hS hL (x_okS_t (x_okS_t hst)) hlv)
    | le => exact lv_icmp_le C.1 C.2.1 (of_decide_eq_true hT) ht (fun q => hJ _ _ _ _ _ _ (h1.1 q) l p e s m args below meth c D A dm0 ad0 C ad ac H locs ls hR hag hdm hcs hss hS hL (x_okS_t (x_okS_t hst)) hlv) (fun q => hN _ _ _ _ _ _ (h1.2 q) l p e s m args below meth c D A dm0 ad0 C ad ac H locs ls hR hag hdm hcs hss hS hL (x_okS_t (x_okS_t hst)) hlv)
  | tableswitch df lo hi os =>
    obtain ⟨x, r, rfl, h1, h2⟩ := x_s1_inv hI
    simp only [x_okT, Bool.and_eq_true, decide_eq_true_eq] at hT
    obtain ⟨t1, t2, t3, t4⟩ := hT
    obtain ⟨len, hdg⟩ : ∃ len, decode (x_bc i) pc = .ok (.tableswitch df lo hi os, len) := by
      split at t1
      · rename_i e
        have := of_decide_eq_true t1
        subst this
        exact ⟨_, e⟩
      · cases t1
    intro l p e s m args below meth c D A dm0 ad0 C ad ac H locs ls hR hag hdm hcs hss hS hL hst hlv
    by_cases hout : x.toInt < lo ∨ hi < x.toInt
    · exact lv_tableOut C.1 C.2.1 hdg hout (by omega) (hJ _ _ _ _ _ _ (h2 hout) l p e s m args below meth c D A dm0 ad0 C ad ac H locs ls hR hag hdm hcs hss hS hL (x_okS_t hst) hlv)
    · have hlo : ¬ x.toInt < lo := fun q => hout (Or.inl q)
      have hhi : ¬ hi < x.toInt := fun q => hout (Or.inr q)
      have hjl : (x.toInt - lo).toNat < os.toList.length := by omega
      have hz : os.toList[(x.toInt - lo).toNat]? = some os.toList[(x.toInt - lo).toNat] := List.getElem?_eq_getElem hjl
      have hpos := of_decide_eq_true (List.all_eq_true.mp t3 _ (List.getElem_mem hjl))
      have hj := x_tsw_at (k := fun t => jp t lv r h cs ss) h1 hz (by omega)
      refine lv_tableIn (off := os.toList[(x.toInt - lo).toNat]) (tgt := ((pc : Int) + os.toList[(x.toInt - lo).toNat]).toNat) C.1 C.2.1 hdg hlo hhi (by rw [← Array.getElem?_toList]; exact hz) (by omega) (hJ _ _ _ _ _ _ hj l p e s m args below meth c D A dm0 ad0 C ad ac H locs ls hR hag hdm hcs hss hS hL (x_okS_t hst) hlv)
  | getfield ix =>
    obtain ⟨k, r, rfl, h0⟩ := x_a1_inv hI
    obtain ⟨hk, h1⟩ := x_b_inv h0
    have hk : (x_SH k).1 = a := by simpa using hk
    have hdg : decode (x_bc i) pc = .ok (.getfield ix, 3) := of_decide_eq_true hT
    split at h1
    · rename_i e
      exact x_r_get (v := .int (x_i h k b)) hok hk hdg (fun ad => by rw [e]; rfl) (fun _ _ => x_ok1_i _ _) (hN _ _ _ _ _ _ h1)
    · rename_i e
      exact x_r_get (v := .long (x_l h k b)) hok hk hdg (fun ad => by rw [e]; rfl) (fun _ _ => x_ok1_l _ _) (hN _ _ _ _ _ _ h1)
    · rename_i e1 e2
      obtain ⟨q, hq, h1⟩ := x_opt_inv h1
      have et : x_tc (x_tys a b) = 2 := by
        generalize x_tys a b = ty at e1 e2
        cases ty <;> first | rfl | exact absurd rfl e1 | exact absurd rfl e2
      exact x_r_get (v := .ref q) hok hk hdg (fun ad => by rw [et]; show va_rf ((x_r h k b).map ad) = _; rw [hq]; rfl) (fun hc hkd => x_ok1_r (hc k hkd b q hq)) (hN _ _ _ _ _ _ h1)
  | putfield ix =>
    have hdg : decode (x_bc i) pc = .ok (.putfield ix, 3) := of_decide_eq_true hT
    simp only [x_okI, Bool.and_eq_true, Bool.or_eq_true, Bool.not_eq_true', decide_eq_true_eq] at hok
    obtain ⟨hF, hfin⟩ := hok
    have hfin : (x_TT a b).2.2.2 = true → (x_y i).name = "<init>" ∧ (x_TT a b).1 = x_own i := fun q => hfin.elim (fun q2 => by rw [q] at q2; cases q2) id
    simp only [x_ins] at hI
    split at hI
    · rename_i et
      obtain ⟨k, x, r, rfl, h0⟩ := x_ai_inv hI
      obtain ⟨hk, h1⟩ := x_b_inv h0
      have hk : (x_SH k).1 = a := by simpa using hk
      have hh : (narrow (x_tys a b) (.int x) = .int x ∧ fits (x_tys a b) (.int x) = true) ∧ nx (pc + 3) lv r (x_up (x_i h) k b x, x_l h, x_r h, x_d h, x_n h) cs ss := by
        unfold x_pb at h1
        split at h1
        · rename_i e; rw [e]; exact ⟨⟨rfl, rfl⟩, x_fh_inv h1⟩
        · rename_i e; rw [e]; exact ⟨by rcases h1.1 with rfl | rfl <;> exact ⟨rfl, rfl⟩, x_fh_inv h1.2⟩
        · exact h1.elim
      refine x_r_put (v := .int x) (h' := (x_up (x_i h) k b x, x_l h, x_r h, x_d h, x_n h)) hF hfin hk hdg (fun _ => hh.1.1) (fun _ => hh.1.2) rfl (fun D A ad ac U H H1 q0 hR hst hq ha hb hP hD => ?_) (hN _ _ _ _ _ _ hh.2)
      refine x_Rep_i hR hq ?_ hP hD
      rw [x_cell_o hk ha]
      congr 2
      refine x_fs_set hb (by rw [et]; show Value.int (va_up (x_i h) k _ k b) = _; rw [x_us, x_us]; rfl) (fun j hj t => x_val_cg (h := h) (h' := (x_up (x_i h) k b x, x_l h, x_r h, x_d h, x_n h)) (by show x_up (x_i h) k b x k j = x_i h k j; unfold x_up; rw [x_us, x_un hj]) rfl rfl t)
    · rename_i et
      obtain ⟨k, x, r, rfl, h0⟩ := x_aj_inv hI
      obtain ⟨hk, h1⟩ := x_b_inv h0
      have hk : (x_SH k).1 = a := by simpa using hk
      have hty : x_tys a b = .long := by
        generalize x_tys a b = ty at et
        cases ty <;> first | rfl | cases et
      refine x_r_put (v := .long x) (h' := (x_i h, x_up (x_l h) k b x, x_r h, x_d h, x_n h)) hF hfin hk hdg (fun _ => by rw [hty]; rfl) (fun _ => by rw [hty]; rfl) rfl (fun D A ad ac U H H1 q0 hR hst hq ha hb hP hD => ?_) (hN _ _ _ _ _ _ (x_fh_inv h1))
      refine x_Rep_l hR hq ?_ hP hD
      rw [x_cell_o hk ha]
      congr 2
      refine x_fs_set hb (by rw [et]; show Value.long (va_up (x_l h) k _ k b) = _; rw [x_us, x_us]; rfl) (fun j hj t => x_val_cg (h := h) (h' := (x_i h, x_up (x_l h) k b x, x_r h, x_d h, x_n h)) rfl (by show x_up (x_l h) k b x k j = x_l h k j; unfold x_up; rw [x_us, x_un hj]) rfl t)
    · rename_i e1 e2
      obtain ⟨k, v, r, rfl, h0⟩ := x_aa_inv hI
      obtain ⟨hk, h1⟩ := x_b_inv h0
      have hk : (x_SH k).1 = a := by simpa using hk
      have hty : x_tc (x_tys a b) = 2 ∧ ∀ z : Nat, narrow (x_tys a b) (.ref z) = .ref z ∧ fits (x_tys a b) (.ref z) = true := by
        generalize x_tys a b = ty at e1 e2
        cases ty <;> first | exact ⟨rfl, fun _ => ⟨rfl, rfl⟩⟩ | exact absurd rfl e1 | exact absurd rfl e2
      refine x_r_put (v := .ref v) (h' := (x_i h, x_l h, x_up (x_r h) k b (some v), x_d h, x_n h)) hF hfin hk hdg (fun ad => (hty.2 (ad v)).1) (fun ad => (hty.2 (ad v)).2) rfl (fun D A ad ac U H H1 q0 hR hst hq ha hb hP hD => ?_) (hN _ _ _ _ _ _ (x_fh_inv h1))
      refine x_Rep_r hR hq (x_okS_h hst v rfl) ?_ hP hD
      rw [x_cell_o hk ha]
      congr 2
      refine x_fs_set hb (by rw [hty.1]; show va_rf ((x_up (x_r h) k b (some v) k b).map ad) = _; unfold x_up; rw [x_us, x_us]; rfl) (fun j hj t => x_val_cg (h := h) (h' := (x_i h, x_l h, x_up (x_r h) k b (some v), x_d h, x_n h)) rfl rfl (by show (x_up (x_r h) k b (some v) k j).map ad = (x_r h k j).map ad; unfold x_up; rw [x_us, x_un hj]) t)
  | getstatic ix => exact x_r_gets hok (of_decide_eq_true hT) (hN _ _ _ _ _ _ hI)
  | iaload =>
    have hdg : decode (x_bc i) pc = .ok (.iaload, 1) := of_decide_eq_true hT
    obtain ⟨k, j, r, rfl, h0⟩ := x_ai_inv hI
    split at h0
    · rename_i e
      exact x_r_iald e h0.1 hdg (hN _ _ _ _ _ _ h0.2)
    · obtain ⟨⟨N, f⟩, hq, h1⟩ := x_opt_inv h0
      exact x_r_ti hq h1.1 hdg (hN _ _ _ _ _ _ h1.2)
  | baload =>
    have hdg : decode (x_bc i) pc = .ok (.baload, 1) := of_decide_eq_true hT
    obtain ⟨k, j, r, rfl, h0⟩ := x_ai_inv hI
    split at h0
    · rename_i e
      exact x_r_bald e h0.1 hdg (hN _ _ _ _ _ _ h0.2)
    · rename_i e
      exact x_r_zald e h0.1 hdg (hN _ _ _ _ _ _ h0.2)
    · exact h0.elim
  | laload =>
    have hdg : decode (x_bc i) pc = .ok (.laload, 1) := of_decide_eq_true hT
    obtain ⟨k, j, r, rfl, h0⟩ := x_ai_inv hI
    split at h0
    · rename_i e
      exact x_r_lald e h0.1 hdg (hN _ _ _ _ _ _ h0.2)
    · obtain ⟨hk, h1⟩ := x_b_inv h0
      have hk : k = 1002 := by simpa using hk
      subst hk
      exact x_r_tl h1.1 hdg (hN _ _ _ _ _ _ h1.2)
  | aaload =>
    have hdg : decode (x_bc i) pc = .ok (.aaload, 1) := of_decide_eq_true hT
    obtain ⟨k, j, r, rfl, h0⟩ := x_ai_inv hI
    obtain ⟨hc, h1, h2⟩ := x_b_inv h0
    obtain ⟨q, hq, h3⟩ := x_opt_inv h2
    exact x_r_aald (c := (x_SH k).1) (N := (x_SH k).2) rfl (of_decide_eq_true hc) h1 hq hdg (hN _ _ _ _ _ _ h3)
  | iastore =>
    have hdg : decode (x_bc i) pc = .ok (.iastore, 1) := of_decide_eq_true hT
    obtain ⟨k, j, x, r, rfl, h0⟩ := x_aii_inv hI
    split at h0
    · rename_i e
      exact x_r_iast e h0.1 hdg (hN _ _ _ _ _ _ (x_fh_inv h0.2))
    · exact h0.elim
  | bastore =>
    have hdg : decode (x_bc i) pc = .ok (.bastore, 1) := of_decide_eq_true hT
    obtain ⟨k, j, x, r, rfl, h0⟩ := x_aii_inv hI
    split at h0
    · rename_i e
      exact x_r_bast e h0.1 hdg (hN _ _ _ _ _ _ (x_fh_inv h0.2))
    · rename_i e
      exact x_r_zast e h0.1 hdg (hN _ _ _ _ _ _ (x_fh_inv h0.2))
    · exact h0.elim
  | lastore =>
    have hdg : decode (x_bc i) pc = .ok (.lastore, 1) := of_decide_eq_true hT
    obtain ⟨k, j, x, r, rfl, h0⟩ := x_aij_inv hI
    split at h0
    · rename_i e
      exact x_r_last e h0.1 hdg (hN _ _ _ _ _ _ (x_fh_inv h0.2))
    · exact h0.elim
  | aastore =>
    have hdg : decode (x_bc i) pc = .ok (.aastore, 1) := of_decide_eq_true hT
    obtain ⟨k, j, v, r, rfl, h0⟩ := x_aia_inv hI
    obtain ⟨hc, h1, h2⟩ := x_b_inv h0
    simp only [Bool.and_eq_true, decide_eq_true_eq, beq_iff_eq] at hc
    have hv2 : (x_SH k).1 < 121 := x_SH_lt k
    exact x_r_aast (c := (x_SH k).1) (N := (x_SH k).2) rfl hc.1 hc.2 hv2 h1 hdg (hN _ _ _ _ _ _ (x_fh_inv h2))
  | arraylength =>
    have hdg : decode (x_bc i) pc = .ok (.arraylength, 1) := of_decide_eq_true hT
    obtain ⟨k, r, rfl, h0⟩ := x_a1_inv hI
    split at h0
    rename_i c N e
    split at h0
    · rename_i e2
      exact x_r_alen e (of_decide_eq_true e2) hdg (hN _ _ _ _ _ _ h0)
    · split at h0
      · exact x_r_tlenL hdg (hN _ _ _ _ _ _ h0)
      · obtain ⟨⟨N2, f⟩, hq, h1⟩ := x_opt_inv h0
        exact x_r_tlen hq hdg (hN _ _ _ _ _ _ h1)
  | newarray t =>
    obtain ⟨n, r, rfl, ⟨h1, h2, h3, h4, h5⟩, ⟨h6, h7⟩, h8⟩ := x_s1_inv hI
    exact x_r_newa (t := t) (by simpa [x_okI] using hok) h2 rfl h1 h3 h4 h5 h6 h7 (of_decide_eq_true hT) (hN _ _ _ _ _ _ h8)
  | anewarray ix =>
    obtain ⟨n, r, rfl, ⟨h1, h2, h3, h4, h5⟩, ⟨h6, h7⟩, h8⟩ := x_s1_inv hI
    simp only [x_okI, Bool.and_eq_true, Bool.or_eq_true, beq_iff_eq] at hok
    exact x_r_newq hok.1 hok.2 h2 rfl h1 h3 h4 h5 h6 h7 (of_decide_eq_true hT) (hN _ _ _ _ _ _ h8)
  | new ix =>
    obtain ⟨⟨h1, h2, h3⟩, ⟨h4, h5⟩, h6⟩ := hI
    exact x_r_new hok h1 h2 h3 h4 h5 (of_decide_eq_true hT) (hN _ _ _ _ _ _ h6)
  | invokevirtual ix =>
    have hdg : decode (x_bc i) pc = .ok (.invokevirtual ix, 3) := of_decide_eq_true hT
    by_cases hb : b = 9
    · subst hb
      have hok : (x_ow i == 10 && ((a == 1 && ix == 144) || (a == 2 && ix == 150))) = true := hok
      have hI : x_str d a pc lv st h cs ss nx := hI
      simp only [Bool.and_eq_true, Bool.or_eq_true, beq_iff_eq] at hok
      obtain ⟨ho, ⟨rfl, rfl⟩ | ⟨rfl, rfl⟩⟩ := hok
      · obtain ⟨k, r, rfl, h0⟩ := x_a1_inv hI
        obtain ⟨hk, h1⟩ := x_b_inv h0
        have hk : k = 1003 := by simpa using hk
        subst hk
        obtain ⟨d1, d2, h2⟩ := x_d4_inv h1
        exact x_r_slen ⟨by omega, by omega⟩ ho d2 hdg (hN _ _ _ _ _ _ h2)
      · obtain ⟨k, j, r, rfl, h0⟩ := x_ai_inv hI
        obtain ⟨hk, h1⟩ := x_b_inv h0
        have hk : k = 1003 := by simpa using hk
        subst hk
        obtain ⟨d1, d2, h2, h3⟩ := x_d4_inv h1
        exact x_r_schar ⟨by omega, by omega⟩ ho d2 h2 hdg (hN _ _ _ _ _ _ h3)
    · have hok : ((decide (a < 328) && (x_kd a == 3 && decide (x_ow a < 11))) && (x_isM (x_ow i) ix a || x_isN (x_ow i) ix a)) = true := by
        simp only [x_okI] at hok
        first | exact hok | (split at hok; exact absurd rfl hb; exact hok)
      have hI : x_cal d R pc a lv st h cs ss nx := by
        simp only [x_ins] at hI
        first | exact hI | (split at hI; exact absurd rfl hb; exact hI)
      simp only [Bool.and_eq_true, Bool.or_eq_true, beq_iff_eq, decide_eq_true_eq] at hok
      obtain ⟨⟨o1, o2, o3⟩, o4⟩ := hok
      obtain ⟨d', P, As, r, rfl, g1, g2, g3, g4, g5, g6, g7, g8⟩ := x_cal_ok (ix := ix) hI
      obtain ⟨k, As', rfl, g9⟩ := g7 o2
      exact x_r_callV hsub hd o1 o2 o4 g9 g1 (by rw [g2]; simp) (by simpa using g3) g4 g5.1 g5.2 hdg o3 (fun q h' hp => hN _ _ _ _ _ _ (g8 q h' hp))
  | invokestatic ix =>
    have hdg : decode (x_bc i) pc = .ok (.invokestatic ix, 3) := of_decide_eq_true hT
    by_cases hb : b = 9
    · subst hb
      have hok : x_isJ (x_ow i) ix a = true := hok
      have hI : x_jdk d a pc lv st h cs ss nx := hI
      unfold x_jdk at hI
      split at hI
      · obtain ⟨x, y, r, rfl, h0⟩ := x_s2_inv hI
        obtain ⟨d1, d2, h1⟩ := x_dd_inv h0
        exact x_r_max ⟨by omega, by omega⟩ hok d2 hdg (hN _ _ _ _ _ _ h1)
      · obtain ⟨x, y, r, rfl, h0⟩ := x_s2_inv hI
        obtain ⟨d1, d2, h1⟩ := x_dd_inv h0
        exact x_r_min ⟨by omega, by omega⟩ hok d2 hdg (hN _ _ _ _ _ _ h1)
      · obtain ⟨x, y, r, rfl, h0⟩ := x_j2_inv hI
        obtain ⟨d1, d2, h1⟩ := x_dd_inv h0
        exact x_r_maxL ⟨by omega, by omega⟩ hok d2 hdg (hN _ _ _ _ _ _ h1)
      · obtain ⟨x, y, r, rfl, h0⟩ := x_j2_inv hI
        obtain ⟨d1, d2, h1⟩ := x_dd_inv h0
        exact x_r_minL ⟨by omega, by omega⟩ hok d2 hdg (hN _ _ _ _ _ _ h1)
      · obtain ⟨k0, sp, k1, dp, n, r, rfl, h0⟩ := x_acp_inv hI
        obtain ⟨d1, d2, h1⟩ := x_dd_inv h0
        split at h1
        · rename_i e1 e2
          exact x_r_copyI ⟨by omega, by omega⟩ hok d2 e1 e2 h1.1 hdg (hN _ _ _ _ _ _ (x_fh_inv h1.2))
        · rename_i e1 e2
          exact x_r_copyL ⟨by omega, by omega⟩ hok d2 e1 e2 h1.1 hdg (hN _ _ _ _ _ _ (x_fh_inv h1.2))
        · exact h1.elim
      · exact hI.elim
    · have hok : ((decide (a < 328) && x_kd a == 1) && (x_isM (x_ow i) ix a || x_isN (x_ow i) ix a)) = true := by
        simp only [x_okI] at hok
        first | exact hok | (split at hok; exact absurd rfl hb; exact hok)
      have hI : x_cal d R pc a lv st h cs ss nx := by
        simp only [x_ins] at hI
        first | exact hI | (split at hI; exact absurd rfl hb; exact hI)
      simp only [Bool.and_eq_true, Bool.or_eq_true, beq_iff_eq, decide_eq_true_eq] at hok
      obtain ⟨⟨o1, o2⟩, o4⟩ := hok
      obtain ⟨d', P, As, r, rfl, g1, g2, g3, g4, g5, g6, g7, g8⟩ := x_cal_ok (ix := ix) hI
      exact x_r_callS hsub hd o1 o2 o4 g1 g2 g3 g4 g5.1 g5.2 hdg (fun q h' hp => hN _ _ _ _ _ _ (g8 q h' hp))
  | invokespecial ix =>
    have hdg : decode (x_bc i) pc = .ok (.invokespecial ix, 3) := of_decide_eq_true hT
    by_cases hb : b = 9
    · subst hb
      have hok : x_isJ (x_ow i) ix 6 = true := hok
      obtain ⟨k, r, rfl, h0⟩ := x_a1_inv hI
      obtain ⟨d1, d2, h1⟩ := x_dd_inv h0
      exact x_r_obj ⟨by omega, by omega⟩ hok d2 hdg (hN _ _ _ _ _ _ h1)
    · have hok : ((decide (a < 328) && (x_kd a == 2 && (decide ((x_y a).name = "<init>") && decide (x_rt a = none)))) && (x_isM (x_ow i) ix a || x_isN (x_ow i) ix a)) = true := by
        simp only [x_okI] at hok
        first | exact hok | (split at hok; exact absurd rfl hb; exact hok)
      have hI : x_cal d R pc a lv st h cs ss nx := by
        simp only [x_ins] at hI
        first | exact hI | (split at hI; exact absurd rfl hb; exact hI)
      simp only [Bool.and_eq_true, Bool.or_eq_true, beq_iff_eq, decide_eq_true_eq] at hok
      obtain ⟨⟨o1, o2, o3, o5⟩, o4⟩ := hok
      obtain ⟨d', P, As, r, rfl, g1, g2, g3, g4, g5, g6, g7, g8⟩ := x_cal_ok (ix := ix) hI
      obtain ⟨k, As', rfl⟩ := g6 o2
      exact x_r_callI hsub hd o1 o2 ⟨o3, o5⟩ o4 g1 (by rw [g2]; simp) (by simpa using g3) g4 g5.1 g5.2 hdg (fun q h' hp => hN _ _ _ _ _ _ (g8 q h' hp))
  | ireturn =>
    simp only [x_ins] at hI
    split at hI
    · exact hRi _ _ _ _ _ _ (of_decide_eq_true hT) hI
    · exact hI.elim
  | lreturn =>
    simp only [x_ins] at hI
    split at hI
    · exact hRl _ _ _ _ _ _ (of_decide_eq_true hT) hI
    · exact hI.elim
  | return_ =>
    simp only [x_ins] at hI
    split at hI
    · exact hRv _ _ _ _ _ (of_decide_eq_true hT) hI
    · exact hI.elim
  | _ => exact False.elim hI
theorem x_in_ok {stops : List Nat} {jp K : xK} (hsub : ∀ k q, x_SI k = some q → SI k = some q) (hd : d ≤ R.frames ∧ 64 * d ≤ R.locals)
    (hRi : ∀ pc lv v h cs ss, decode (x_bc i) pc = .ok (.ireturn, 1) → RT (some (.int v)) h cs ss → x_G SI i R QQ pc lv [.int v] h cs ss)
    (hRl : ∀ pc lv v h cs ss, decode (x_bc i) pc = .ok (.lreturn, 1) → RT (some (.long v)) h cs ss → x_G SI i R QQ pc lv [.long v] h cs ss)
    (hRv : ∀ pc lv h cs ss, decode (x_bc i) pc = .ok (.return_, 1) → RT none h cs ss → x_G SI i R QQ pc lv [] h cs ss)
    (hJ : ∀ pc lv st h cs ss, jp pc lv st h cs ss → x_G SI i R QQ pc lv st h cs ss) (hK : ∀ pc lv st h cs ss, K pc lv st h cs ss → x_G SI i R QQ pc lv st h cs ss) : ∀ (L : List xE), (∀ e ∈ L, x_okE i e = true) → ∀ pc lv st h cs ss, x_in SI i d R RT stops jp K L pc lv st h cs ss → x_G SI i R QQ pc lv st h cs ss
  | [], _, pc, lv, st, h, cs, ss, hI => hK _ _ _ _ _ _ hI
  | (ep, ins, a, b) :: r, hok, pc, lv, st, h, cs, ss, hI => by
    simp only [x_in] at hI
    have ih := x_in_ok (stops := stops) hsub hd hRi hRl hRv hJ hK r (fun e he => hok e (List.mem_cons_of_mem _ he))
    split at hI
    · rename_i e1
      have e1 : ep = pc := by simpa using e1
      subst e1
      have h1 := hok (ep, ins, a, b) List.mem_cons_self
      unfold x_okE at h1
      rw [Bool.and_eq_true] at h1
      refine x_ins_ok hsub hd hRi hRl hRv (fun pc lv st h cs ss hn => ?_) hJ h1.1 h1.2 hI
      split at hn
      · exact hK _ _ _ _ _ _ hn
      · exact ih _ _ _ _ _ _ hn
    · exact hK _ _ _ _ _ _ hI
theorem x_seek_mem {pc : Nat} : ∀ {L : List xE} {e : xE}, e ∈ x_seek pc L → e ∈ L
  | [], e, h => by simp [x_seek] at h
  | q :: L, e, h => by
    unfold x_seek at h
    split at h
    · exact h
    · exact List.mem_cons_of_mem _ (x_seek_mem h)
theorem x_wp_ok0 {tab : List xE} {stops : List Nat} {K : xK} (hsub : ∀ k q, x_SI k = some q → SI k = some q) (hd : d ≤ R.frames ∧ 64 * d ≤ R.locals)
    (hRi : ∀ pc lv v h cs ss, decode (x_bc i) pc = .ok (.ireturn, 1) → RT (some (.int v)) h cs ss → x_G SI i R QQ pc lv [.int v] h cs ss)
    (hRl : ∀ pc lv v h cs ss, decode (x_bc i) pc = .ok (.lreturn, 1) → RT (some (.long v)) h cs ss → x_G SI i R QQ pc lv [.long v] h cs ss)
    (hRv : ∀ pc lv h cs ss, decode (x_bc i) pc = .ok (.return_, 1) → RT none h cs ss → x_G SI i R QQ pc lv [] h cs ss)
    (hok : tab.all (x_okE i) = true) (hK : ∀ pc lv st h cs ss, K pc lv st h cs ss → x_G SI i R QQ pc lv st h cs ss) : ∀ (f : Nat) pc lv st h cs ss, x_wp SI i d R RT tab stops K f pc lv st h cs ss → x_G SI i R QQ pc lv st h cs ss
  | 0, pc, lv, st, h, cs, ss, hI => hK _ _ _ _ _ _ hI
  | f + 1, pc, lv, st, h, cs, ss, hI => by
    simp only [x_wp] at hI
    refine x_in_ok hsub hd hRi hRl hRv (fun pc lv st h cs ss hn => ?_) hK (x_seek pc tab) (fun e he => List.all_eq_true.mp hok e (x_seek_mem he)) _ _ _ _ _ _ hI
    split at hn
    · exact hK _ _ _ _ _ _ hn
    · exact x_wp_ok0 hsub hd hRi hRl hRv hok hK f _ _ _ _ _ _ hn
end XS
/-- a method's judgement: at pc, with so deep a room left, Post -/
abbrev x_J (i d : Nat) (P : Option Value → xH → Prop) : xK := x_G x_SI i (x_rm i d) (x_QQ i P)
/-- THE RULE that is used: the precondition, by evaluation -/
theorem x_wp_ok {i d : Nat} {P : Option Value → xH → Prop} {tab : List xE} (hok : tab.all (x_okE i) = true) (stops : List Nat) (f : Nat) {pc : Nat} {lv : List (Option Value)} {st : List Value} {h : xH} {cs ss : Nat} (hI : x_wp x_SI i d (x_rm i d) (x_RT i P) tab stops (x_J i d P) f pc lv st h cs ss) : x_J i d P pc lv st h cs ss :=
  x_wp_ok0 (fun _ _ h => h) ⟨Nat.le_refl _, Nat.le_refl _⟩ (fun _ _ _ _ _ _ hd hr => x_r_iret hd hr) (fun _ _ _ _ _ _ hd hr => x_r_lret hd hr) (fun _ _ _ _ _ hd hr => x_r_vret hd hr) hok (fun _ _ _ _ _ _ h => h) f _ _ _ _ _ _ hI
/-- a contract by evaluation from the entry -/
theorem x_Ct_w {i d : Nat} {As : List Value} {h : xH} {P : Option Value → xH → Prop} {tab : List xE} (ha : i < 328) (hn : (x_sl As).length ≤ x_ml i) (hok : tab.all (x_okE i) = true) (stops : List Nat) (f : Nat) (hI : x_fl (x_ent (x_ml i) As) (fun lv => x_wp x_SI i d (x_rm i d) (x_RT i P) tab stops (x_J i d P) f 0 lv [] h 0 0)) : x_Ct i d As h P :=
  x_Ct_of ha hn (x_wp_ok hok stops f (x_fl_inv (k := fun lv => x_wp x_SI i d (x_rm i d) (x_RT i P) tab stops (x_J i d P) f 0 lv [] h 0 0) hI))
