/-! THE CLAIM OUT OF ONE WALK OF THE LAW'S BODY. Your part is whole_start (and what it stands on); all else here is the same for every law, but numbers. -/
def R_law : String := "CipherModesLaw"
def lw_P (b : Addr) (xs : List Int32) (args : Array Value) (s : State) : Prop := args = #[.ref b] ∧ s.IntsAt b xs ∧ xs.length ≤ 2048 ∧ (Jvm.Cond.and given_1 narrow_1).before args s = true
def lw_Q (_ : Array Value) (s : State) (o : Outcome) (t : State) : Prop := o = .returned (some (.int 1)) ∧ Framed s o t [] 51 19279
def lw_Z (below : List Frame) (a : Array Value) (s : State) : State → Prop := fun t => ∃ o, t.status = .running ∧ Ended t below o ∧ lw_Q a s o t
/-- the law's own end, with 1 on the stack, nothing written that was there before, its room as the claim has it -/
theorem lw_ret {p : Program} {l : Launch} {e : Env} {s : State} {m : MethodId} {below : List Frame} {meth : Method} {c : Code} {b : Nat} (hx : p.tables.exec = Jvm.exec) (hb : c.code = code) (hr : meth.sig.returnType = ret) (hlocks : meth.locks = false) {pc : Nat} {H : Heap} {ls : Array Slot} (hdg : decode code pc = .ok (.ireturn, 1)) : W p l e room_1 s m #[Value.ref b] below meth c H [] 51 19279 (lw_Z below #[Value.ref b] s) (F0 m pc ls [.int 1]) := by
  intro T hT X
  obtain ⟨fs, hret, hrun, hended, hW, hframe⟩ := X.leave (v := some (.int 1)) (hlocks := hlocks) (fun h => by rw [hr] at h; cases h)
  have hmeth' : T.vm.method? m = some meth := X.method'
  refine ⟨T.setFrames fs, ?_, .returned (some (.int 1)), hrun, hended, rfl, ⟨_, rfl⟩, hW, hframe⟩
  jvm_step X.here [X.here.top, hx, hb, hdg, hmeth', hr, ret, narrow_b1]
  (try refine ⟨rfl, ?_⟩); (try refine ⟨rfl, ?_⟩)
  first | (intro acts; rw [hret _ acts rfl rfl rfl]) | rw [hret _ _ rfl rfl rfl]
  exact Steps.refl _
/-- what holds at the law's entry: the machine, the code, the tables' words (any of lw_tbl by 'hts w (by decide +kernel)'), the script of L ints xs at the cell b, what the Statement gives of the start (any of its parts by flat_of_before) -/
def lw_At (p : Program) (s : State) (m : MethodId) (meth : Method) (c : Code) (b L : Nat) (xs : Nat → Int32) : Prop :=
  p.tables.exec = Jvm.exec ∧ c.code = code ∧ meth.sig.returnType = ret ∧ c.maxLocals = 4 ∧ s.vm.findClass R_law = some m.cls ∧ (∀ w ∈ lw_tbl, w.before #[Value.ref b] s = true) ∧ va_X b L xs s s.heap ∧ b < s.heap.size ∧ meth.locks = false ∧ (Jvm.Cond.and given_1 narrow_1).before #[Value.ref b] s = true
set_option maxRecDepth 100000 in
theorem kin_BC : Cond.instantiable RBC 4 ∈ kWS := kt (List.mem_append_left _ (List.mem_of_getElem? (i := 49) rfl)) rfl
set_option maxRecDepth 100000 in
theorem kin_BX : Cond.instantiable RBX 2 ∈ kWS := kt (List.mem_append_left _ (List.mem_of_getElem? (i := 23) rfl)) rfl
set_option maxRecDepth 100000 in
theorem kin_CH : Cond.instantiable RCH 10 ∈ kWS := kt (List.mem_append_left _ (List.mem_of_getElem? (i := 81) rfl)) rfl
set_option maxRecDepth 100000 in
theorem kin_OU : Cond.instantiable ROU 2 ∈ kWS := kt (List.mem_append_left _ (List.mem_of_getElem? (i := 68) rfl)) rfl
set_option maxRecDepth 100000 in
theorem kin_ST : Cond.instantiable RST 10 ∈ kWS := kt (List.mem_append_left _ (List.mem_of_getElem? (i := 184) rfl)) rfl
set_option maxRecDepth 100000 in
theorem kin_SM : Cond.instantiable RSM 7 ∈ kWS := kt (List.mem_append_left _ (List.mem_of_getElem? (i := 201) rfl)) rfl
set_option maxRecDepth 100000 in
theorem kin_TW : Cond.instantiable RTW 10 ∈ kWS := kt (List.mem_append_left _ (List.mem_of_getElem? (i := 219) rfl)) rfl
set_option maxRecDepth 100000 in
theorem kin_X : Cond.instantiable RX 14 ∈ kWS := kt (List.mem_append_left _ (List.mem_of_getElem? (i := 15) rfl)) rfl
set_option maxRecDepth 100000 in
theorem kin_M : Cond.instantiable RM 22 ∈ kWS := kt (List.mem_append_right _ (List.mem_append_right _ (List.mem_append_left _ (List.mem_of_getElem? (i := 92) rfl)))) rfl
/-! the law's walk out of the machine's start -/
theorem kRL_of {p : Program} {e : Env} {s : State} {m : MethodId} {below : List Frame} {meth : Method} {c : Code} (l : Launch) {b L : Nat} {xs : Nat → Int32} (C0 : lw_At p s m meth c b L xs)
    (body : ∀ G, kRL l b L xs G → G 0 [(0, .inr (.ref b))] [] [] 0 0) : W p l e room_1 s m #[Value.ref b] below meth c s.heap [] 0 0 (lw_Z below #[Value.ref b] s) (entryFrame m ([Value.ref b] : List Value).toArray 4) := by
  obtain ⟨hx, hb, hr, hml, hown, hts, hX, hbl, hlocks, -⟩ := C0
  have hkw : ∀ w ∈ kWS, w.before #[Value.ref b] s = true := fun w hw => hts w (List.mem_filter.mp hw).1
  have hcl : ∀ ci : Nat, ∃ r : ClassId × (Nat → Nat), ∀ q : vw_C, vwCl[ci]? = some q → u_Kn s q.1 q.2.1 q.2.2 r.1 r.2 := by
    have one : ∀ (C : String) (T : u_T) (N : Nat), (∀ x ∈ u_ws C T N, x ∈ kWS) → Cond.instantiable C N ∈ kWS → ∃ r : ClassId × (Nat → Nat), ∀ q : vw_C, some (C, T, N) = some q → u_Kn s q.1 q.2.1 q.2.2 r.1 r.2 := fun C T N hin hi => by
      obtain ⟨cC, iS, h⟩ := u_known hkw hin (hkw _ hi)
      exact ⟨(cC, iS), fun q hq => by cases hq; exact h⟩
    intro ci
    match ci with
    | 0 => exact one _ _ _ kuBC kin_BC
    | 1 => exact one _ _ _ kuBX kin_BX
    | 2 => exact one _ _ _ kuCH kin_CH
    | 3 => exact one _ _ _ kuOU kin_OU
    | 4 => exact one _ _ _ kuST kin_ST
    | 5 => exact one _ _ _ kuSM kin_SM
    | 6 => exact one _ _ _ kuTW kin_TW
    | 7 => exact one _ _ _ kuX kin_X
    | 8 => exact one _ _ _ kuM kin_M
    | k + 9 => exact ⟨(0, fun _ => 0), fun q hq => by cases hq⟩
  obtain ⟨f, hf⟩ := Classical.axiomOfChoice hcl
  obtain ⟨cA, kA, comp, h1, h2, h3⟩ := Cond.arrayClass_spec (hkw _ kw_int)
  have hK : va_K (fun ci => (f ci).1, fun ci => (f ci).2) vwCl [(cA, .int)] s := ⟨fun ci q hq => hf ci q hq, fun k q hq => by
    have hk : k < 1 := (List.getElem?_eq_some_iff.mp hq).1
    rw [show k = 0 by omega] at hq
    cases hq
    exact ⟨fun n z => ⟨fun k h => (by cases h), kA, h2, comp, h3⟩, h1⟩⟩
  have hG : kG (fun ci => (f ci).1, fun ci => (f ci).2) cA kNW s := ⟨hK, fun w hw => va_Nw.of (kNW_on (kNW_all w hw)) (hts w (List.mem_filter.mp hw).1)⟩
  have hl := lv_entry ([Value.ref b] : List Value) (n := 4) (Nat.le_of_ble_eq_true rfl)
  rw [lg_entry_eq]
  refine body (kAt p l e room_1 s m #[Value.ref b] below meth c (fun ci => (f ci).1, fun ci => (f ci).2) cA (fun q => s.heap.size ≤ q) 4 (lw_Z below #[Value.ref b] s)) ⟨p, e, s, m, below, meth, c, _, cA, _, ⟨⟨hx, hb, hml, hown, hkw⟩, hG, fun q h => h, fun h => by cases h⟩, rfl, ?_, hX, hbl⟩ s.heap [] _ (fun k q h => absurd h (by simp [dW])) ⟨fun i j p q h => absurd h (by simp [dW]), fun k q h => absurd h (by simp [dW])⟩ va_S.rf hl
  intro pc lv w k n hd hk hn H locs ls hP hD hS hl
  exact va_forget hS.2.2 (W.widen hk hn (lw_ret hx hb hr hlocks hd))
