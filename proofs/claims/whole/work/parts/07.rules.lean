/-! THE RULES: an instruction's precondition gives the judgement -/
theorem x_b_inv {b : Bool} {P : Prop} (h : x_b b P) : b = true ∧ P := by
  cases b with
  | true => exact ⟨rfl, h⟩
  | false => exact h.elim
theorem x_opt_inv {α : Type} {o : Option α} {k : α → Prop} (h : x_opt o k) : ∃ x, o = some x ∧ k x := by
  cases o with
  | none => exact h.elim
  | some x => exact ⟨x, rfl, h⟩
theorem x_s1_inv {st : List Value} {k : Int32 → List Value → Prop} (h : x_s1 st k) : ∃ x r, st = .int x :: r ∧ k x r := by
  unfold x_s1 at h
  split at h
  · exact ⟨_, _, rfl, h⟩
  · exact h.elim
theorem x_s2_inv {st : List Value} {k : Int32 → Int32 → List Value → Prop} (h : x_s2 st k) : ∃ x y r, st = .int y :: .int x :: r ∧ k x y r := by
  unfold x_s2 at h
  split at h
  · exact ⟨_, _, _, rfl, h⟩
  · exact h.elim
theorem x_j1_inv {st : List Value} {k : Int64 → List Value → Prop} (h : x_j1 st k) : ∃ x r, st = .long x :: r ∧ k x r := by
  unfold x_j1 at h
  split at h
  · exact ⟨_, _, rfl, h⟩
  · exact h.elim
theorem x_j2_inv {st : List Value} {k : Int64 → Int64 → List Value → Prop} (h : x_j2 st k) : ∃ x y r, st = .long y :: .long x :: r ∧ k x y r := by
  unfold x_j2 at h
  split at h
  · exact ⟨_, _, _, rfl, h⟩
  · exact h.elim
theorem x_ij_inv {st : List Value} {k : Int64 → Int32 → List Value → Prop} (h : x_ij st k) : ∃ x y r, st = .int y :: .long x :: r ∧ k x y r := by
  unfold x_ij at h
  split at h
  · exact ⟨_, _, _, rfl, h⟩
  · exact h.elim
theorem x_a1_inv {st : List Value} {k : Nat → List Value → Prop} (h : x_a1 st k) : ∃ x r, st = .ref x :: r ∧ k x r := by
  unfold x_a1 at h
  split at h
  · exact ⟨_, _, rfl, h⟩
  · exact h.elim
theorem x_ai_inv {st : List Value} {k : Nat → Int32 → List Value → Prop} (h : x_ai st k) : ∃ x j r, st = .int j :: .ref x :: r ∧ k x j r := by
  unfold x_ai at h
  split at h
  · exact ⟨_, _, _, rfl, h⟩
  · exact h.elim
theorem x_aii_inv {st : List Value} {k : Nat → Int32 → Int32 → List Value → Prop} (h : x_aii st k) : ∃ x j v r, st = .int v :: .int j :: .ref x :: r ∧ k x j v r := by
  unfold x_aii at h
  split at h
  · exact ⟨_, _, _, _, rfl, h⟩
  · exact h.elim
theorem x_aij_inv {st : List Value} {k : Nat → Int32 → Int64 → List Value → Prop} (h : x_aij st k) : ∃ x j v r, st = .long v :: .int j :: .ref x :: r ∧ k x j v r := by
  unfold x_aij at h
  split at h
  · exact ⟨_, _, _, _, rfl, h⟩
  · exact h.elim
theorem x_aia_inv {st : List Value} {k : Nat → Int32 → Nat → List Value → Prop} (h : x_aia st k) : ∃ x j v r, st = .ref v :: .int j :: .ref x :: r ∧ k x j v r := by
  unfold x_aia at h
  split at h
  · exact ⟨_, _, _, _, rfl, h⟩
  · exact h.elim
theorem x_aj_inv {st : List Value} {k : Nat → Int64 → List Value → Prop} (h : x_aj st k) : ∃ x v r, st = .long v :: .ref x :: r ∧ k x v r := by
  unfold x_aj at h
  split at h
  · exact ⟨_, _, _, rfl, h⟩
  · exact h.elim
theorem x_aa_inv {st : List Value} {k : Nat → Nat → List Value → Prop} (h : x_aa st k) : ∃ x v r, st = .ref v :: .ref x :: r ∧ k x v r := by
  unfold x_aa at h
  split at h
  · exact ⟨_, _, _, rfl, h⟩
  · exact h.elim
theorem x_acp_inv {st : List Value} {k : Nat → Int32 → Nat → Int32 → Int32 → List Value → Prop} (h : x_acp st k) : ∃ k0 sp k1 dp n r, st = .int n :: .int dp :: .ref k1 :: .int sp :: .ref k0 :: r ∧ k k0 sp k1 dp n r := by
  unfold x_acp at h
  split at h
  · exact ⟨_, _, _, _, _, _, rfl, h⟩
  · exact h.elim
theorem x_ldI_inv {lv : List (Option Value)} {k : Nat} {f : Int32 → Prop} (h : x_ldI lv k f) : ∃ x, lv[k]? = some (some (.int x)) ∧ f x := by
  unfold x_ldI at h
  split at h
  · rename_i e; exact ⟨_, e, h⟩
  · exact h.elim
theorem x_ldL_inv {lv : List (Option Value)} {k : Nat} {f : Int64 → Prop} (h : x_ldL lv k f) : ∃ x, lv[k]? = some (some (.long x)) ∧ f x := by
  unfold x_ldL at h
  split at h
  · rename_i e; exact ⟨_, e, h⟩
  · exact h.elim
theorem x_ldA_inv {lv : List (Option Value)} {k : Nat} {f : Nat → Prop} (h : x_ldA lv k f) : ∃ x, lv[k]? = some (some (.ref x)) ∧ f x := by
  unfold x_ldA at h
  split at h
  · rename_i e; exact ⟨_, e, h⟩
  · exact h.elim
theorem x_v1_inv {st : List Value} {k : Value → List Value → Prop} (h : x_v1 st k) : ∃ v r, st = v :: r ∧ v.category = 1 ∧ k v r := by
  unfold x_v1 at h
  split at h
  · obtain ⟨h1, h2⟩ := x_b_inv h
    exact ⟨_, _, rfl, by simpa using h1, h2⟩
  · exact h.elim
theorem x_v2_inv {st : List Value} {k : Value → Value → List Value → Prop} (h : x_v2 st k) : ∃ v w r, st = v :: w :: r ∧ v.category = 1 ∧ w.category = 1 ∧ k v w r := by
  unfold x_v2 at h
  split at h
  · obtain ⟨h1, h2⟩ := x_b_inv h
    simp only [Bool.and_eq_true, beq_iff_eq] at h1
    exact ⟨_, _, _, rfl, h1.1, h1.2, h2⟩
  · exact h.elim
theorem x_SH_far {k : Nat} (h : 1000 ≤ k) : x_SH k = (99, 0) := by
  have e1 : decide (k < 106) = false := decide_eq_false (by omega)
  have e2 : decide (500 ≤ k ∧ k < 518) = false := decide_eq_false (by omega)
  unfold x_SH
  rw [e1, e2]
  split
  · contradiction
  · contradiction
  · split <;> first | omega | rfl
theorem x_inD {dm : List Nat} {k : Nat} (h : x_in1 dm k) (hs : (x_SH k).1 ≠ 99) : k ∈ dm := h.elim id fun h1 => absurd (by rw [x_SH_far h1]) hs
theorem x_fs_at {ad : Nat → Nat} {h : xH} {k ci b : Nat} (hb : b < x_nF ci) : (x_fs ad h k ci)[b]? = some (x_val ad h k b (x_tc (x_tys ci b))) := by
  unfold x_fs
  rw [List.getElem?_map, List.getElem?_range hb]
  rfl
theorem x_fs_set {ad : Nat → Nat} {h h' : xH} {k ci b : Nat} {v : Value} (hb : b < x_nF ci) (h1 : x_val ad h' k b (x_tc (x_tys ci b)) = v) (h2 : ∀ j, j ≠ b → ∀ t, x_val ad h' k j t = x_val ad h k j t) : x_fs ad h' k ci = (x_fs ad h k ci).set b v := by
  apply List.ext_getElem?
  intro j
  rw [List.getElem?_set]
  by_cases hj : b = j
  · subst hj
    rw [if_pos rfl, if_pos (by simpa [x_fs] using hb), x_fs_at hb, h1]
  · rw [if_neg hj]
    unfold x_fs
    rw [List.getElem?_map, List.getElem?_map]
    by_cases hl : j < x_nF ci
    · rw [List.getElem?_range hl]
      simp [h2 j (fun e => hj e.symm)]
    · rw [List.getElem?_eq_none (by simpa using hl)]
      rfl
section XR
variable {SI : Nat → Option (Nat × (Nat → Int32))} {i : Nat} {R : Room} {QQ : xQ} {pc pc' : Nat} {lv : List (Option Value)} {st st' : List Value} {h : xH} {cs ss : Nat}
theorem x_pure1 (hN : x_G SI i R QQ pc' lv st' h cs ss) (hs : ∀ dm, x_okS dm st → x_okS dm st')
    (hW : ∀ (p : Program) (l : Launch) (e : Env) (s : State) (m : MethodId) (args : Array Value) (below : List Frame) (meth : Method) (c : Code) (H : Heap) (locs : List Loc) (Q : State → Prop) (ls : Array Slot) (ad : Nat → Nat), p.tables.exec = Jvm.exec → c.code = x_bc i → s.vm.findClass (x_own i) = some m.cls → (∀ w ∈ x_gd, w.before args s = true) → x_L (x_ml i) ad lv ls →
      W p l e R s m args below meth c H locs cs ss Q (F0 m pc' ls (st'.map (x_cv ad))) → W p l e R s m args below meth c H locs cs ss Q (F0 m pc ls (st.map (x_cv ad)))) : x_G SI i R QQ pc lv st h cs ss := by
  intro l p e s m args below meth c D A dm0 ad0 C ad ac H locs ls hR hag hdm hcs hss hS hL hst hlv
  exact hW p l e s m args below meth c H locs _ ls ad C.1 C.2.1 C.2.2.2.1 C.2.2.2.2.1 hL (hN l p e s m args below meth c D A dm0 ad0 C ad ac H locs ls hR hag hdm hcs hss hS hL (hs _ hst) hlv)
theorem x_r_st1 {k len : Nat} {v : Value} {r : List Value} (hk : k < lv.length) (hN : x_G SI i R QQ pc' (x_st1 lv k v) r h cs ss)
    (hs : ∀ dm, x_okS dm st → x_okS dm r) (hv : ∀ dm, x_okS dm st → x_okL dm lv → x_ok1 dm v)
    (hW : ∀ (p : Program) (l : Launch) (e : Env) (s : State) (m : MethodId) (args : Array Value) (below : List Frame) (meth : Method) (c : Code) (H : Heap) (locs : List Loc) (Q : State → Prop) (ls : Array Slot) (ad : Nat → Nat), p.tables.exec = Jvm.exec → c.code = x_bc i → x_L (x_ml i) ad lv ls →
      (∀ ls' : Array Slot, lv_has ls' (x_ml i) ((k, x_cv ad v) :: (x_as ad lv).filter (fun q => !(q.1 == k) && !(q.1 + 1 == k && q.2.category == 2))) → W p l e R s m args below meth c H locs cs ss Q (F0 m pc' ls' (r.map (x_cv ad)))) → W p l e R s m args below meth c H locs cs ss Q (F0 m pc ls (st.map (x_cv ad)))) : x_G SI i R QQ pc lv st h cs ss := by
  intro l p e s m args below meth c D A dm0 ad0 C ad ac H locs ls hR hag hdm hcs hss hS hL hst hlv
  exact hW p l e s m args below meth c H locs _ ls ad C.1 C.2.1 hL (fun ls' hl' => hN l p e s m args below meth c D A dm0 ad0 C ad ac H locs ls' hR hag hdm hcs hss hS (x_L_st1 hL hl') (hs _ hst) (x_okL_st1 k hlv (hv _ hst hlv)))
theorem x_r_st2 {k : Nat} {v : Value} {r : List Value} (hN : x_G SI i R QQ pc' (x_st2 lv k v) r h cs ss)
    (hs : ∀ dm, x_okS dm st → x_okS dm r) (hv : ∀ dm, x_okS dm st → x_ok1 dm v)
    (hW : ∀ (p : Program) (l : Launch) (e : Env) (s : State) (m : MethodId) (args : Array Value) (below : List Frame) (meth : Method) (c : Code) (H : Heap) (locs : List Loc) (Q : State → Prop) (ls : Array Slot) (ad : Nat → Nat), p.tables.exec = Jvm.exec → c.code = x_bc i → x_L (x_ml i) ad lv ls →
      (∀ ls' : Array Slot, lv_has ls' (x_ml i) ((k, x_cv ad v) :: (x_as ad lv).filter (fun q => !(q.1 == k) && (!(q.1 == k + 1) && !(q.1 + 1 == k && q.2.category == 2)))) → W p l e R s m args below meth c H locs cs ss Q (F0 m pc' ls' (r.map (x_cv ad)))) → W p l e R s m args below meth c H locs cs ss Q (F0 m pc ls (st.map (x_cv ad)))) : x_G SI i R QQ pc lv st h cs ss := by
  intro l p e s m args below meth c D A dm0 ad0 C ad ac H locs ls hR hag hdm hcs hss hS hL hst hlv
  exact hW p l e s m args below meth c H locs _ ls ad C.1 C.2.1 hL (fun ls' hl' => hN l p e s m args below meth c D A dm0 ad0 C ad ac H locs ls' hR hag hdm hcs hss hS (x_L_st2 hL hl') (hs _ hst) (x_okL_st2 k hlv (hv _ hst)))
end XR
