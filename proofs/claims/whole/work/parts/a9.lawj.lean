/-! the law's own judgement -/
/-! THE CLAIM OUT OF ONE WALK OF THE LAW'S BODY. Your part is whole_start (and what it stands on); all else here is the same for every law, but numbers. -/
def R_law : String := "BarkMoneyLaw"
def lw_P (b : Addr) (xs : List Int32) (args : Array Value) (s : State) : Prop := args = #[.ref b] ∧ s.IntsAt b xs ∧ xs.length ≤ 3072 ∧ (Jvm.Cond.and given_1 narrow_1).before args s = true
def lw_Q (_ : Array Value) (s : State) (o : Outcome) (t : State) : Prop := o = .returned (some (.int 1)) ∧ Framed s o t [] 600000 7302250
def lw_Z (below : List Frame) (a : Array Value) (s : State) : State → Prop := fun t => ∃ o, t.status = .running ∧ Ended t below o ∧ lw_Q a s o t
/-- the law's own end, with 1 on the stack, nothing written that was there before, its room as the claim has it -/
theorem lw_ret {p : Program} {l : Launch} {e : Env} {s : State} {m : MethodId} {below : List Frame} {meth : Method} {c : Code} {b : Nat} (hx : p.tables.exec = Jvm.exec) (hb : c.code = code) (hr : meth.sig.returnType = ret) (hlocks : meth.locks = false) {pc : Nat} {H : Heap} {ls : Array Slot} (hdg : decode code pc = .ok (.ireturn, 1)) : W p l e room_1 s m #[Value.ref b] below meth c H [] 600000 7302250 (lw_Z below #[Value.ref b] s) (F0 m pc ls [.int 1]) := by
  intro T hT X
  obtain ⟨fs, hret, hrun, hended, hW, hframe⟩ := X.leave (v := some (.int 1)) (hlocks := hlocks) (fun h => by rw [hr] at h; cases h)
  have hmeth' : T.vm.method? m = some meth := X.method'
  refine ⟨T.setFrames fs, ?_, .returned (some (.int 1)), hrun, hended, rfl, ⟨_, rfl⟩, hW, hframe⟩
  jvm_step X.here [X.here.top, hx, hb, hdg, hmeth', hr, ret, narrow_b1]
  (try refine ⟨rfl, ?_⟩); (try refine ⟨rfl, ?_⟩)
  first | (intro acts; rw [hret _ acts rfl rfl rfl]) | rw [hret _ _ rfl rfl rfl]
  exact Steps.refl _
/-- what holds at the law's entry: the machine, the code, the tables' words (any of lw_tbl by 'hts w (by decide +kernel)'), the script of L ints xs at the cell b, what the Statement gives of the start (any of its parts by flat_of_before) -/
def lw_At (p : Program) (s : State) (m : MethodId) (meth : Method) (c : Code) (b L : Nat) (xs : Nat → Int32) : Prop :=
  p.tables.exec = Jvm.exec ∧ c.code = code ∧ meth.sig.returnType = ret ∧ c.maxLocals = 4 ∧ s.vm.findClass R_law = some m.cls ∧ (∀ w ∈ lw_tbl, w.before #[Value.ref b] s = true) ∧ va_X b L xs s s.heap ∧ b < s.heap.size ∧ meth.locks = false ∧ (Jvm.Cond.and given_1 narrow_1).before #[Value.ref b] s = true

/-- the constants and the script -/
def x_SL (L : Nat) (xs : Nat → Int32) (k : Nat) : Option (Nat × (Nat → Int32)) := match k with
  | 1000 => some (3, fun j => x_si0.getD j 0)
  | 1001 => some (3, fun j => x_si1.getD j 0)
  | 1005 => some (L, xs)
  | _ => none
theorem x_SL_sub {L : Nat} {xs : Nat → Int32} : ∀ k q, x_SI k = some q → x_SL L xs k = some q := by
  intro k q h
  unfold x_SI at h
  split at h
  · exact h
  · exact h
  · cases h
/-- the end of the law: the claim's, when the frame is the law's own -/
def x_QL : xQ := fun below args s _ A _ ad0 t => (args = #[.ref (ad0 1005)] ∧ ∀ q, A q → s.heap.size ≤ q) → lw_Z below args s t
def x_RL : Option Value → xH → Nat → Nat → Prop := fun r _ cs ss => r = some (.int 1) ∧ cs ≤ 600000 ∧ ss ≤ 7302250
def x_JL (L : Nat) (xs : Nat → Int32) : xK := x_G (x_SL L xs) 328 room_1 x_QL
theorem x_bcL : x_bc 328 = code := rfl
theorem x_rtL : x_rt 328 = ret := rfl
theorem x_l_iret {L : Nat} {xs : Nat → Int32} {pc : Nat} {lv : List (Option Value)} {v : Int32} {h : xH} {cs ss : Nat} (hdg : decode (x_bc 328) pc = .ok (.ireturn, 1)) (hrt : x_RL (some (.int v)) h cs ss) : x_G (x_SL L xs) 328 room_1 x_QL pc lv [.int v] h cs ss := by
  obtain ⟨hv, h1, h2⟩ := hrt
  cases hv
  intro l p e s m args below meth c D A dm0 ad0 C ad ac H locs ls hR hag hdm hcs hss hS hL hst hlv
  by_cases hg : args = #[.ref (ad0 1005)] ∧ ∀ q, A q → s.heap.size ≤ q
  · obtain ⟨hga, hgA⟩ := hg
    subst hga
    have hw := lw_ret (p := p) (l := l) (e := e) (s := s) (m := m) (below := below) (meth := meth) (c := c) (b := ad0 1005) C.1 (C.2.1.trans x_bcL) (C.2.2.2.2.2.2.1.trans x_rtL) C.2.2.2.2.2.2.2.1 (pc := pc) (H := H) (ls := ls) (by rw [← x_bcL]; exact hdg)
    have hw2 := W.widen h1 h2 hw
    have hw3 := va_forget (locs := locs) (fun q hq => hgA _ (hS.2.2 q hq)) hw2
    intro T hT X
    obtain ⟨t, a, b⟩ := hw3 T hT X
    exact ⟨t, a, fun _ => b⟩
  · intro T hT X
    exact ⟨_, Steps.refl _, fun q => absurd q hg⟩
/-- evaluation in the law's frame -/
theorem x_wp_okL {L : Nat} {xs : Nat → Int32} {tab : List xE} (hok : tab.all (x_okE 328) = true) (stops : List Nat) (f : Nat) {pc : Nat} {lv : List (Option Value)} {st : List Value} {h : xH} {cs ss : Nat} (hI : x_wp (x_SL L xs) 328 1300 room_1 x_RL tab stops (x_JL L xs) f pc lv st h cs ss) : x_JL L xs pc lv st h cs ss :=
  x_wp_ok0 (QQ := x_QL) x_SL_sub (by decide) (fun _ _ _ _ _ _ hd hr => x_l_iret hd hr) (fun _ _ _ _ _ _ _ hr => by cases hr.1) (fun _ _ _ _ _ _ hr => by cases hr.1) hok (fun _ _ _ _ _ _ h => h) f _ _ _ _ _ _ hI
