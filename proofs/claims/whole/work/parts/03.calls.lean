/-! calls: the callee's contract is used; the rest of the world stays -/
theorem kNW_warm {w : Cond} (hk : kNWok w = true) {s U : State} (hW : s.WarmedH U.vm) (h : va_Nw w s) : va_Nw w U := by
  cases w with
  | fieldLinkNest a i b n d h' => exact va_Nw.warmF hW h
  | methodLinkNest a i x h' => exact va_Nw.warmM hW h
  | declares x => exact va_Nw.warmD hW h
  | _ => exact absurd (show false = true from hk) (by decide)
theorem kNW_on {w : Cond} (hk : kNWok w = true) : w.onTables = true := by
  cases w with
  | fieldLinkNest a i b n d h' => rfl
  | methodLinkNest a i x h' => rfl
  | declares x => rfl
  | _ => exact absurd (show false = true from hk) (by decide)
theorem kNW_all : ∀ w ∈ kNW, kNWok w = true := List.all_eq_true.mp (by decide +kernel)
theorem kG.warm {D : va_G} {cA : ClassId} {s U : State} (hW : s.WarmedH U.vm) (h : kG D cA kNW s) : kG D cA kNW U := ⟨va_K.moved hW.alike h.1, fun w hw => kNW_warm (kNW_all w hw) hW (h.2 w hw)⟩
theorem kG.calling {D : va_G} {cA : ClassId} {U : State} {g : JFrame} {mk : MethodId} {a : Array Value} (h : kG D cA kNW U) : kG D cA kNW (U.calling g mk a) := ⟨va_K.moved (u := U) (U := U.calling g mk a) (Vm.Alike.refl U.vm) h.1, fun w hw => va_Nw.same (kNW_on (kNW_all w hw)) (show U.vm = (U.calling g mk a).vm from rfl) (h.2 w hw)⟩
theorem kPre_blind {D : va_G} {cA : ClassId} {av : List sV} {w : sW} {sz : Nat} : FrameBlind (kPre D cA av w sz) := fun a U g mk q => by
  obtain ⟨q0, q1, qP, qG, qD⟩ := q
  exact ⟨q0, q1, qP, qG.calling, qD⟩
theorem dW_map {cA : ClassId} {w w' : sW} {is : List Nat} (hs : is.map (fun i => w[i]?) = w'.map some) : is.map (fun i => (dW cA w)[i]?) = (dW cA w').map some := by
  have e1 : (fun i : Nat => (dW cA w)[i]?) = (fun i : Nat => (w[i]?).map (fun q : Nat × sE => (q.1, dE cA q.2))) := by
    funext i
    unfold dW
    rw [List.getElem?_map]
  rw [e1]
  have e2 : is.map (fun i : Nat => (w[i]?).map (fun q : Nat × sE => (q.1, dE cA q.2))) = (is.map (fun i : Nat => w[i]?)).map (fun o => o.map (fun q : Nat × sE => (q.1, dE cA q.2))) := by rw [List.map_map]; rfl
  rw [e2, hs]
  unfold dW
  rw [List.map_map, List.map_map]
  rfl
theorem dW_pick {cA : ClassId} {w w' : sW} {is : List Nat} (hs : is.map (fun i => w[i]?) = w'.map some) : is.filterMap (fun i => (dW cA w)[i]?) = dW cA w' := by
  have e3 : is.filterMap (fun i => (dW cA w)[i]?) = (is.map (fun i => (dW cA w)[i]?)).filterMap id := by rw [List.filterMap_map]; rfl
  rw [e3, dW_map hs, List.filterMap_map]
  exact List.filterMap_some
theorem kWS_good : ∀ w ∈ kWS, goodWord w = true := List.all_eq_true.mp (by decide +kernel)
theorem kGood {ws : List Cond} (h : ∀ w ∈ ws, w ∈ kWS) : GoodIn kWS ws := fun w hw => ⟨h w hw, good_of_word (kWS_good w (h w hw))⟩
section KC
variable {p : Program} {l : Launch} {e : Env} {R : Room} {s : State} {m : MethodId} {args : Array Value} {below : List Frame} {meth : Method} {c : Code} {D : va_G} {cA : ClassId} {A : Nat → Prop} {nL : Nat} {Q : State → Prop} {cc : ByteArray} {own : String} {ini : Bool}
variable {pc k n mc ms : Nat} {lv : sL} {st rest : List sV} {w wc wr : sW} {H : Heap} {locs : List Loc} {ls : Array Slot} {Post : Option sV → sW → Prop} {a : Array Value}
theorem kr_after (hA : ∀ q, s.heap.size ≤ q → A q) (hP : va_P D vwCl (dW cA w) H) (hD : va_D A (dW cA w)) (hS : va_S A s.heap H locs) (hl : lv_has ls nL (dL lv)) (isC isR : List Nat) (hC : isC.map (fun i => w[i]?) = wc.map some) (hR : isR.map (fun i => w[i]?) = wr.map some) (hn : va_nd isR = true) (hdis : ∀ i ∈ isR, i ∉ isC)
    (hr : va_Run p l e R s m args below meth c H locs k n mc ms (F0 m pc ls (st.map dV)) (rest.map dV) (kQ D cA wc H.size Post a) (va_A (dW cA wc) H.size))
    (kk : ∀ r w1, Post r w1 → kAt p l e R s m args below meth c D cA A nL Q (pc + 3) lv (r.toList ++ rest) (wr ++ w1) (k + mc) (n + ms)) : W p l e R s m args below meth c H locs k n Q (F0 m pc ls (st.map dV)) := by
  intro T hT X
  have hf := va_free (wc := dW cA wc) hD hS hA isC (dW_map hC)
  obtain ⟨v, st₀, t, T', L, h0, X', hL, e1, e2, ⟨⟨r, w1, hv, hp, hb1, hb2⟩, hz, hk⟩, stp⟩ := hr T hT X
  cases hv
  rw [h0] at hz hk
  rw [← e1] at hb1
  have hk' : ∀ q : Nat, q < H.size → ¬ va_A (dW cA wc) H.size q → T'.heap[q]? = H[q]? := fun q h1 h2 => by rw [e1]; exact hk q h1 h2
  obtain ⟨hPn, hDn⟩ := va_join hP hD isC isR (dW_map hC) (dW_map hR) hn hdis hk' hf hb1 hb2
  have eW : dW cA wr ++ dW cA w1 = dW cA (wr ++ w1) := by unfold dW; rw [List.map_append]
  rw [eW] at hPn hDn
  have eS : (r.toList ++ rest).map dV = (r.map dV).toList ++ rest.map dV := by cases r <;> rfl
  have h3 := kk r w1 hp T'.heap (locs ++ L) ls hPn hDn ⟨Nat.le_trans hS.1 (by rw [e1]; exact hz), fun q h1 h2 => by rw [hk' q (Nat.lt_of_lt_of_le h1 hS.1) (fun z => h2 (hf q z))]; exact hS.2.1 q h1 h2, fun q hq => by
    rcases List.mem_append.mp hq with h | h
    · exact hS.2.2 q h
    · exact hf _ (hL q h)⟩ hl
  rw [eS] at h3
  obtain ⟨t2, a1, b1⟩ := h3 T' rfl X'
  exact ⟨t2, stp t2 a1, b1⟩
/-- the callee's start -/
theorem kr_pre {av : List sV} (hG : kG D cA kNW s) (hP : va_P D vwCl (dW cA w) H) (hD : va_D A (dW cA w)) (isC : List Nat) (hn : va_nd isC = true) (hC : isC.map (fun i => w[i]?) = wc.map some) : ∀ U : State, U.heap = H → s.WarmedH U.vm → kPre D cA av wc H.size (av.map dV).toArray U := fun U hU hW =>
  ⟨rfl, by rw [hU], by rw [hU]; exact hP.sub isC (dW_pick hC), hG.warm hW, (hD.sub isC hn (dW_map hC)).weaken (fun _ _ _ _ => trivial)⟩
end KC
/-- the tables' words for a call -/
def kCode (y : MethodName) (cc : ByteArray) (nL : Nat) (ret : Option FieldType) : Prop := Cond.code y cc nL ret ∈ kWS ∧ Cond.initialized y.cls ∈ kWS ∧ y.cls ≠ "java/lang/invoke/MethodHandle" ∧ y.cls ≠ "java/lang/invoke/VarHandle"
def kArgs (y : MethodName) (n : Nat) : Prop := (parseMethodDescriptor y.desc).map (fun d => d.parameters.length) = some n
def kLinkS (own : String) (idx : Nat) (y : MethodName) : Prop := Cond.static y ∈ kWS ∧ (Cond.methodLink own idx y ∈ kWS ∨ ∃ host, Cond.methodLinkNest own idx y host ∈ kNW)
section KRC
variable {l : Launch} {cc cc' : ByteArray} {nL nL' : Nat} {own : String} {ini : Bool} {R rm : Room} {Fin : Nat → List sV → sW → Nat → Nat → Prop} {G : kT} {y : MethodName} {ret : Option FieldType} {av : List sV} {Post : Option sV → sW → Prop}
variable {pc k n idx : Nat} {lv : sL} {st rest : List sV} {w wc wr : sW}
theorem k_rev : (av.reverse ++ rest).map dV = (av.map dV).reverse ++ rest.map dV := by rw [List.map_append, List.map_reverse]
theorem kR.callS (h : kR l cc nL own ini R Fin G) (hM : kMet l y cc' nL' ret rm av wc Post) (hd : decode cc pc = .ok (.invokestatic idx, 3)) (hL : kLinkS own idx y) (hc : kCode y cc' nL' ret) (ha : kArgs y av.length) (hroom : rm.frames + 1 ≤ R.frames ∧ 8 + (nL' + 11) + rm.locals ≤ R.locals) (hf : k + rm.cells ≤ R.cells ∧ n + rm.slots ≤ R.slots)
    (hst : st = av.reverse ++ rest) (hcat : ((rest.map dV).map fun v => v.category).sum ≤ 8) (isC isR : List Nat) (hnC : va_nd isC = true) (hC : isC.map (fun i => w[i]?) = wc.map some) (hR : isR.map (fun i => w[i]?) = wr.map some) (hn : va_nd isR = true) (hdis : ∀ i ∈ isR, i ∉ isC)
    (kk : ∀ r w1, Post r w1 → G (pc + 3) lv (r.toList ++ rest) (wr ++ w1) (k + rm.cells) (n + rm.slots)) : G pc lv st w k n := by
  obtain ⟨p, e, s, m, args, below, meth, c, D, cA, A, Q, C0, rfl, -⟩ := h
  intro H locs ls hP hD hS hl
  obtain ⟨C1, hG, hA, -⟩ := C0
  have hts := C1.2.2.2.2
  obtain ⟨hst1, hlink⟩ := hL
  obtain ⟨hcode, hini, hy1, hy2⟩ := hc
  have hGood : GoodIn kWS (Cond.code y cc' nL' ret :: kWS) := kGood (fun w hw => by rcases List.mem_cons.mp hw with h | h; (rw [h]; exact hcode); exact h)
  refine kr_after (mc := rm.cells) (ms := rm.slots) hA hP hD hS hl isC isR hC hR hn hdis (a := (av.map dV).toArray) ?_ kk
  rw [hst, k_rev]
  rcases hlink with h1 | ⟨host, h1⟩
  · have cw : CallB R s args own idx y cc' nL' ret (Cond.code y cc' nL' ret :: kWS) rm rm.cells rm.slots av.length ∧ (Cond.static y).before args s = true := ⟨callB_of av.length hts hGood rfl rfl rfl (hts _ hini) (hts _ h1) ⟨hy1, hy2, ha⟩ hroom, hts _ hst1⟩
    exact va_runS C1 (hM D cA H.size) cw ⟨kPre_blind, kr_pre hG hP hD isC hnC hC⟩ rfl (by rw [List.length_map]) hl.1 rfl (lv_room hcat) hd hf
  · have cw : va_CN R s args own idx y host cc' nL' ret (Cond.code y cc' nL' ret :: kWS) rm rm.cells rm.slots av.length := va_cnB av.length hts hGood rfl rfl rfl (hG.2 _ h1) (hts _ hini) ⟨hy1, hy2, ha⟩ hroom
    exact va_runSN C1 (hM D cA H.size) ⟨cw, hts _ hst1, trivial⟩ ⟨kPre_blind, kr_pre hG hP hD isC hnC hC⟩ rfl (by rw [List.length_map]) hl.1 rfl (lv_room hcat) hd hf
/-- the same with one end: the world comes back in its order -/
theorem kR.callSD (h : kR l cc nL own ini R Fin G) {r0 : Option sV} {wc' w2 : sW} (hM : kMet l y cc' nL' ret rm av wc (fun r w1 => r = r0 ∧ w1 = wc')) (hd : decode cc pc = .ok (.invokestatic idx, 3)) (hL : kLinkS own idx y) (hc : kCode y cc' nL' ret) (ha : kArgs y av.length) (hroom : rm.frames + 1 ≤ R.frames ∧ 8 + (nL' + 11) + rm.locals ≤ R.locals) (hf : k + rm.cells ≤ R.cells ∧ n + rm.slots ≤ R.slots)
    (hst : st = av.reverse ++ rest) (hcat : ((rest.map dV).map fun v => v.category).sum ≤ 8) (isC isR isP : List Nat) (hnC : va_nd isC = true) (hC : isC.map (fun i => w[i]?) = wc.map some) (hR : isR.map (fun i => w[i]?) = wr.map some) (hn : va_nd isR = true) (hdis : ∀ i ∈ isR, i ∉ isC) (hnP : va_nd isP = true) (hPm : isP.map (fun i => (wr ++ wc')[i]?) = w2.map some)
    (kk : G (pc + 3) lv (r0.toList ++ rest) w2 (k + rm.cells) (n + rm.slots)) : G pc lv st w k n :=
  h.callS hM hd hL hc ha hroom hf hst hcat isC isR hnC hC hR hn hdis (fun r w1 hp => by
    obtain ⟨rfl, rfl⟩ := hp
    exact h.sub isP hnP hPm kk)
end KRC
/-- the words for a call of a method of an object of the class C -/
def kLinkV (own : String) (idx : Nat) (C : String) (y : MethodName) : Prop := Cond.instanceMethod y ∈ kWS ∧
  ((Cond.selects C y y ∈ kWS ∧ (Cond.methodLink own idx y ∈ kWS ∨ ∃ host, Cond.methodLinkNest own idx y host ∈ kNW)) ∨
   ∃ (x : MethodName) (owner : String), Cond.methodLink own idx x ∈ kWS ∧ Cond.sameMethod x.cls owner x.name x.desc ∈ kWS ∧ Cond.selects C x y ∈ kWS ∧ x.desc = y.desc ∧ owner ≠ "java/lang/invoke/MethodHandle" ∧ owner ≠ "java/lang/invoke/VarHandle" ∧
    (Cond.declares ⟨owner, x.name, x.desc⟩ ∈ kNW ∨ (Cond.instanceMethod ⟨owner, x.name, x.desc⟩ ∈ kWS ∧ ∃ b0 m0 r0, Cond.code ⟨owner, x.name, x.desc⟩ b0 m0 r0 ∈ kWS)))
def kLinkI (own : String) (idx : Nat) (y : MethodName) : Prop := Cond.instanceMethod y ∈ kWS ∧ y.name = "<init>" ∧ (Cond.methodLink own idx y ∈ kWS ∨ ∃ host, Cond.methodLinkNest own idx y host ∈ kNW)
section KRV
variable {l : Launch} {cc cc' : ByteArray} {nL nL' : Nat} {own C : String} {ini : Bool} {R rm : Room} {Fin : Nat → List sV → sW → Nat → Nat → Prop} {G : kT} {y : MethodName} {ret : Option FieldType} {as fs : List sV} {Post : Option sV → sW → Prop}
variable {pc k n idx b ci : Nat} {lv : sL} {st rest : List sV} {w wc wr : sW}
theorem k_revV : (as.reverse ++ .inr (.ref b) :: rest).map dV = (as.map dV).reverse ++ Value.ref b :: rest.map dV := by rw [List.map_append, List.map_reverse]; rfl
theorem kR.callV (h : kR l cc nL own ini R Fin G) (q0 : Nat) (hM : kMet l y cc' nL' ret rm (.inr (.ref b) :: as) wc Post) (hq : w[q0]? = some (b, .inr (ci, fs))) (hci : (vwCl[ci]?).map (fun q => q.1) = some C) (hd : decode cc pc = .ok (.invokevirtual idx, 3)) (hL : kLinkV own idx C y) (hc : kCode y cc' nL' ret) (ha : kArgs y as.length) (hroom : rm.frames + 1 ≤ R.frames ∧ 8 + (nL' + 11) + rm.locals ≤ R.locals) (hf : k + rm.cells ≤ R.cells ∧ n + rm.slots ≤ R.slots)
    (hst : st = as.reverse ++ .inr (.ref b) :: rest) (hcat : ((rest.map dV).map fun v => v.category).sum ≤ 8) (isC isR : List Nat) (hnC : va_nd isC = true) (hC : isC.map (fun i => w[i]?) = wc.map some) (hR : isR.map (fun i => w[i]?) = wr.map some) (hn : va_nd isR = true) (hdis : ∀ i ∈ isR, i ∉ isC)
    (kk : ∀ r w1, Post r w1 → G (pc + 3) lv (r.toList ++ rest) (wr ++ w1) (k + rm.cells) (n + rm.slots)) : G pc lv st w k n := by
  obtain ⟨p, e, s, m, args, below, meth, c, D, cA, A, Q, C0, rfl, -⟩ := h
  intro H locs ls hP hD hS hl
  obtain ⟨C1, hG, hA, -⟩ := C0
  have hts := C1.2.2.2.2
  obtain ⟨hinst, hlink⟩ := hL
  obtain ⟨hcode, hini, hy1, hy2⟩ := hc
  have hGood : GoodIn kWS (Cond.code y cc' nL' ret :: kWS) := kGood (fun w hw => by rcases List.mem_cons.mp hw with h | h; (rw [h]; exact hcode); exact h)
  obtain ⟨cq, hcq, rfl⟩ := Option.map_eq_some_iff.mp hci
  have hrec := va_recv hG.1 hP hcq (dW_at hq)
  have hpre : PreV s H cq.1 b (kPre D cA (.inr (.ref b) :: as) wc H.size) (as.map dV) := ⟨kPre_blind, hrec, kr_pre hG hP hD isC hnC hC⟩
  refine kr_after (mc := rm.cells) (ms := rm.slots) hA hP hD hS hl isC isR hC hR hn hdis (a := (Value.ref b :: as.map dV).toArray) ?_ kk
  rw [hst, k_revV]
  rcases hlink with ⟨hsel, h1 | ⟨host, h1⟩⟩ | ⟨x, owner, h1, h2, h3, h4, h5, h6, h7⟩
  · have cw : CallW R s args own cq.1 idx y cc' nL' ret (Cond.code y cc' nL' ret :: kWS) rm rm.cells rm.slots as.length := ⟨callB_of as.length hts hGood rfl rfl rfl (hts _ hini) (hts _ h1) ⟨hy1, hy2, ha⟩ hroom, hts _ hinst, hts _ hsel⟩
    exact va_runV C1 (hM D cA H.size) cw hpre rfl (by rw [List.length_map]) hl.1 rfl (lv_room hcat) hd hf
  · have cw : va_CN R s args own idx y host cc' nL' ret (Cond.code y cc' nL' ret :: kWS) rm rm.cells rm.slots as.length := va_cnB as.length hts hGood rfl rfl rfl (hG.2 _ h1) (hts _ hini) ⟨hy1, hy2, ha⟩ hroom
    exact va_runVN C1 (hM D cA H.size) ⟨cw, hts _ hinst, hts _ hsel⟩ hpre rfl (by rw [List.length_map]) hl.1 rfl (lv_room hcat) hd hf
  · have hdecl : va_Decl s ⟨owner, x.name, x.desc⟩ := by
      rcases h7 with h | ⟨h, b0, m0, r0, h'⟩
      · exact va_Decl.abs (hG.2 _ h)
      · exact va_Decl.of (hts _ h) (hts _ h')
    have hn : ∀ sig, parseMethodDescriptor x.desc = some sig → as.length = sig.parameters.length := fun sig hs => by
      unfold kArgs at ha
      rw [← h4, hs] at ha
      exact (Option.some.inj ha).symm
    have cw : va_CU R s args own cq.1 owner idx x y cc' nL' ret (Cond.code y cc' nL' ret :: kWS) rm rm.cells rm.slots as.length := ⟨⟨rfl, rfl, hroom.1, hroom.2, pay_in hts hGood, List.mem_cons_self⟩, hts _ hcode, hts _ hini, ⟨h5, h6⟩, hn, hts _ h1, hts _ h2, hdecl, hts _ h3, hts _ hinst⟩
    exact va_runU C1 (hM D cA H.size) cw hpre rfl (by rw [List.length_map]) hl.1 rfl (lv_room hcat) hd hf
theorem kR.callVD (h : kR l cc nL own ini R Fin G) (q0 : Nat) {r0 : Option sV} {wc' w2 : sW} (hM : kMet l y cc' nL' ret rm (.inr (.ref b) :: as) wc (fun r w1 => r = r0 ∧ w1 = wc')) (hq : w[q0]? = some (b, .inr (ci, fs))) (hci : (vwCl[ci]?).map (fun q => q.1) = some C) (hd : decode cc pc = .ok (.invokevirtual idx, 3)) (hL : kLinkV own idx C y) (hc : kCode y cc' nL' ret) (ha : kArgs y as.length) (hroom : rm.frames + 1 ≤ R.frames ∧ 8 + (nL' + 11) + rm.locals ≤ R.locals) (hf : k + rm.cells ≤ R.cells ∧ n + rm.slots ≤ R.slots)
    (hst : st = as.reverse ++ .inr (.ref b) :: rest) (hcat : ((rest.map dV).map fun v => v.category).sum ≤ 8) (isC isR isP : List Nat) (hnC : va_nd isC = true) (hC : isC.map (fun i => w[i]?) = wc.map some) (hR : isR.map (fun i => w[i]?) = wr.map some) (hn : va_nd isR = true) (hdis : ∀ i ∈ isR, i ∉ isC) (hnP : va_nd isP = true) (hPm : isP.map (fun i => (wr ++ wc')[i]?) = w2.map some)
    (kk : G (pc + 3) lv (r0.toList ++ rest) w2 (k + rm.cells) (n + rm.slots)) : G pc lv st w k n :=
  h.callV q0 hM hq hci hd hL hc ha hroom hf hst hcat isC isR hnC hC hR hn hdis (fun r w1 hp => by
    obtain ⟨rfl, rfl⟩ := hp
    exact h.sub isP hnP hPm kk)
theorem kR.callI (h : kR l cc nL own ini R Fin G) (hM : kMet l y cc' nL' none rm (.inr (.ref b) :: as) wc Post) (hd : decode cc pc = .ok (.invokespecial idx, 3)) (hL : kLinkI own idx y) (hc : kCode y cc' nL' none) (ha : kArgs y as.length) (hroom : rm.frames + 1 ≤ R.frames ∧ 8 + (nL' + 11) + rm.locals ≤ R.locals) (hf : k + rm.cells ≤ R.cells ∧ n + rm.slots ≤ R.slots)
    (hst : st = as.reverse ++ .inr (.ref b) :: rest) (hcat : ((rest.map dV).map fun v => v.category).sum ≤ 8) (isC isR : List Nat) (hnC : va_nd isC = true) (hC : isC.map (fun i => w[i]?) = wc.map some) (hR : isR.map (fun i => w[i]?) = wr.map some) (hn : va_nd isR = true) (hdis : ∀ i ∈ isR, i ∉ isC)
    (kk : ∀ r w1, Post r w1 → G (pc + 3) lv (r.toList ++ rest) (wr ++ w1) (k + rm.cells) (n + rm.slots)) : G pc lv st w k n := by
  obtain ⟨p, e, s, m, args, below, meth, c, D, cA, A, Q, C0, rfl, -⟩ := h
  intro H locs ls hP hD hS hl
  obtain ⟨C1, hG, hA, -⟩ := C0
  have hts := C1.2.2.2.2
  obtain ⟨hinst, hy0, hlink⟩ := hL
  obtain ⟨hcode, hini, hy1, hy2⟩ := hc
  have hGood : GoodIn kWS (Cond.code y cc' nL' none :: kWS) := kGood (fun w hw => by rcases List.mem_cons.mp hw with h | h; (rw [h]; exact hcode); exact h)
  have hpre : PreS s H (kPre D cA (.inr (.ref b) :: as) wc H.size) (Value.ref b :: as.map dV) := ⟨kPre_blind, kr_pre hG hP hD isC hnC hC⟩
  refine kr_after (mc := rm.cells) (ms := rm.slots) hA hP hD hS hl isC isR hC hR hn hdis (a := (Value.ref b :: as.map dV).toArray) ?_ kk
  rw [hst, k_revV]
  rcases hlink with h1 | ⟨host, h1⟩
  · exact va_runI C1 (hM D cA H.size) (cwI as.length hts hGood rfl rfl rfl (hts _ hini) (hts _ h1) (hts _ hinst) hy0 ⟨hy1, hy2, ha⟩ hroom) hpre rfl (by rw [List.length_map]) hl.1 rfl (lv_room hcat) hd hf
  · exact va_runIN C1 (hM D cA H.size) ⟨va_cnB as.length hts hGood rfl rfl rfl (hG.2 _ h1) (hts _ hini) ⟨hy1, hy2, ha⟩ hroom, hy0, hts _ hinst⟩ hpre rfl (by rw [List.length_map]) hl.1 rfl (lv_room hcat) hd hf
theorem kR.callID (h : kR l cc nL own ini R Fin G) {r0 : Option sV} {wc' w2 : sW} (hM : kMet l y cc' nL' none rm (.inr (.ref b) :: as) wc (fun r w1 => r = r0 ∧ w1 = wc')) (hd : decode cc pc = .ok (.invokespecial idx, 3)) (hL : kLinkI own idx y) (hc : kCode y cc' nL' none) (ha : kArgs y as.length) (hroom : rm.frames + 1 ≤ R.frames ∧ 8 + (nL' + 11) + rm.locals ≤ R.locals) (hf : k + rm.cells ≤ R.cells ∧ n + rm.slots ≤ R.slots)
    (hst : st = as.reverse ++ .inr (.ref b) :: rest) (hcat : ((rest.map dV).map fun v => v.category).sum ≤ 8) (isC isR isP : List Nat) (hnC : va_nd isC = true) (hC : isC.map (fun i => w[i]?) = wc.map some) (hR : isR.map (fun i => w[i]?) = wr.map some) (hn : va_nd isR = true) (hdis : ∀ i ∈ isR, i ∉ isC) (hnP : va_nd isP = true) (hPm : isP.map (fun i => (wr ++ wc')[i]?) = w2.map some)
    (kk : G (pc + 3) lv (r0.toList ++ rest) w2 (k + rm.cells) (n + rm.slots)) : G pc lv st w k n :=
  h.callI hM hd hL hc ha hroom hf hst hcat isC isR hnC hC hR hn hdis (fun r w1 hp => by
    obtain ⟨rfl, rfl⟩ := hp
    exact h.sub isP hnP hPm kk)
/-- Object's own constructor -/
theorem kR.objInit (h : kR l cc nL own ini R Fin G) (hd : decode cc pc = .ok (.invokespecial idx, 3)) (h1 : Cond.methodLink own idx Lib.objectInit ∈ kWS) (h2 : Cond.instanceMethod Lib.objectInit ∈ kWS) (h3 : Cond.code Lib.objectInit ⟨#[0xb1]⟩ 1 none ∈ kWS) (hroom : 1 ≤ R.frames ∧ ((rest.map dV).map fun v => v.category).sum + 12 ≤ R.locals) (kk : G (pc + 3) lv rest w k n) : G pc lv (.inr (.ref b) :: rest) w k n := by
  obtain ⟨p, e, s, m, args, below, meth, c, D, cA, A, Q, ⟨⟨hx, hbb, hml, hown, hts⟩, -⟩, rfl, -⟩ := h
  intro H locs ls hP hD hS hl
  exact W.objInit hx hbb hown (hts _ h1) (hts _ h2) (hts _ h3) rfl (hl.1.trans hml.symm) rfl hd hroom.1 (by have := hroom.2; simp only [JFrame.monitorRoom]; omega) (kk H locs ls hP hD hS hl)
/-- a new object, its fields as they are at first -/
def kNewW (own : String) (idx ci : Nat) (fs : List sV) (N : Nat) : Prop := ∃ (C : String) (T : u_T) (ty : Nat → FieldType), vwCl[ci]? = some (C, T, N) ∧ (∀ x ∈ u_ws C T N, x ∈ kWS) ∧ (∀ k, k < N → parseFieldDescriptor (T k).2.2.1 = some (ty k)) ∧ Cond.classLink own idx C ∈ kWS ∧ Cond.instantiable C N ∈ kWS ∧ Cond.initialized C ∈ kWS ∧ ∀ j, j < N → defaultValue (ty j) = vp_V (fs.map dV) j
theorem kR.new (h : kR l cc nL own ini R Fin G) {N : Nat} (hd : decode cc pc = .ok (.new idx, 3)) (hw : kNewW own idx ci fs N) (hf : k + 1 ≤ R.cells ∧ n + N ≤ R.slots) (kk : ∀ q : Nat, G (pc + 3) lv (.inr (.ref q) :: st) (w ++ [(q, .inr (ci, fs))]) (k + 1) (n + N)) : G pc lv st w k n := by
  obtain ⟨p, e, s, m, args, below, meth, c, D, cA, A, Q, ⟨⟨hx, hbb, hml, hown, hts⟩, hG, hA, -⟩, rfl, -⟩ := h
  intro H locs ls hP hD hS hl
  obtain ⟨C, T, ty, hc, hin, hty, h1, h2, h3, hfs⟩ := hw
  refine va_new hx hbb hts hin ty hty hown (hts _ h1) (hts _ h2) (hts _ h3) hG.1 hP hD hS hA hc hfs hf.1 hf.2 hd fun q H1 hP1 hD1 hS1 => ?_
  have e1 : dW cA w ++ [(q, .inr (ci, fs.map dV))] = dW cA (w ++ [(q, .inr (ci, fs))]) := dW_app (x := .inr (ci, fs))
  rw [e1] at hP1 hD1
  exact kk q H1 locs ls hP1 hD1 hS1 hl
theorem kR.newa (h : kR l cc nL own ini R Fin G) {N : Nat} (hd : decode cc pc = .ok (.newarray .int, 2)) (hw : Cond.arrayClass .int ∈ kWS) (hN : N < 100000) (hf : k + 1 ≤ R.cells ∧ n + N ≤ R.slots) (kk : ∀ q : Nat, G (pc + 2) lv (.inr (.ref q) :: st) (w ++ [(q, .inl (N, fun _ => 0))]) (k + 1) (n + N)) : G pc lv (.inl N :: st) w k n := by
  obtain ⟨p, e, s, m, args, below, meth, c, D, cA, A, Q, ⟨⟨hx, hbb, hml, hown, hts⟩, hG, hA, -⟩, rfl, -⟩ := h
  intro H locs ls hP hD hS hl
  have hcl : (nI N).toNatClampNeg = N := nI_clamp (by omega)
  refine va_newaK (n := nI N) (N := N) hx hbb (atype := .int) (hts _ hw) rfl hd rfl (nI_pos (by omega)) hcl (by show N * 4 ≤ 536870912; omega) hf.1 hf.2 rfl fun H1 cA' e1 z1 o1 hAr hNm => ?_
  have hcA : cA' = cA := by
    have h2 : s.vm.findClass ("[" ++ FieldType.int.toString) = some cA := (hG.1.2 0 (cA, .int) rfl).2
    exact Option.some.inj (hNm.symm.trans h2)
  subst hcA
  have hk : ∀ (k : Nat) (x : Nat × va_E), (dW cA' w)[k]? = some x → H1[x.1]? = H[x.1]? := fun k x hx => o1 x.1 ((hP k x hx).lt)
  have eW : dW cA' w ++ [(H.size, dE cA' (.inl (N, fun _ => 0)))] = dW cA' (w ++ [(H.size, .inl (N, fun _ => 0))]) := dW_app
  refine kk H.size H1 locs ls ?_ ?_ ⟨Nat.le_trans hS.1 (by omega), fun x h1 h2 => (o1 x (Nat.lt_of_lt_of_le h1 hS.1)).trans (hS.2.1 x h1 h2), hS.2.2⟩ hl
  · rw [← eW]
    refine (hP.kept hk).app (fun k x hx => ?_)
    have hz : k < 1 := (List.getElem?_eq_some_iff.mp hx).1
    rw [show k = 0 by omega] at hx
    cases hx
    exact e1
  · rw [← eW]
    exact hD.push hP rfl (hA _ hS.1)
/-- System.arraycopy of ints -/
theorem kR.copy (h : kR l cc nL own ini R Fin G) (q0 q1 : Nat) {a0 n0 n1 sp dp N : Nat} {f g : Nat → Nat} (h0 : w[q0]? = some (a0, .inl (n0, f))) (h1 : w[q1]? = some (b, .inl (n1, g))) (hd : decode cc pc = .ok (.invokestatic idx, 3)) (hl1 : Cond.methodLink own idx arraycopyName ∈ kWS) (hl2 : Cond.native arraycopyName ∈ kWS) (hl3 : Cond.static arraycopyName ∈ kWS) (hl4 : Cond.initialized "java/lang/System" ∈ kWS)
    (hb0 : sp + N ≤ n0) (hb1 : dp + N ≤ n1) (hs0 : n0 < 2147483648) (hs1 : n1 < 2147483648) (hroom : 1 ≤ R.frames ∧ ((rest.map dV).map fun v => v.category).sum + (nativeFrameWords "java/lang/System" "arraycopy" 5 + 11) ≤ R.locals)
    (kk : G (pc + 3) lv rest (w.set q1 (b, .inl (n1, va_cpy f g sp dp N))) k n) : G pc lv (.inl N :: .inl dp :: .inr (.ref b) :: .inl sp :: .inr (.ref a0) :: rest) w k n := by
  obtain ⟨p, e, s, m, args, below, meth, c, D, cA, A, Q, ⟨⟨hx, hbb, hml, hown, hts⟩, hG, hA, -⟩, rfl, -⟩ := h
  intro H locs ls hP hD hS hl
  have c1 : (nI sp).toNatClampNeg = sp := nI_clamp (by omega)
  have c2 : (nI dp).toNatClampNeg = dp := nI_clamp (by omega)
  have c3 : (nI N).toNatClampNeg = N := nI_clamp (by omega)
  refine va_copyi (f := fun j => nI (f j)) (g := fun j => nI (g j)) (ty := .int) hx hbb (hml.trans hl.1.symm) hown (hts _ hl1) (hts _ hl2) (hts _ hl3) (hts _ hl4) hG.1 hP hD hS q0 q1 0 0 (dW_at h0) (dW_at h1) rfl rfl rfl (nI_pos (by omega)) (nI_pos (by omega)) (nI_pos (by omega)) (by rw [c1, c3]; exact hb0) (by rw [c2, c3]; exact hb1) (fun _ _ => rfl) hroom.1 hroom.2 hd ?_
  have hf : va_cpy (fun j => nI (f j)) (fun j => nI (g j)) (nI sp).toNatClampNeg (nI dp).toNatClampNeg (nI N).toNatClampNeg = fun j => nI (va_cpy f g sp dp N j) := by
    rw [c1, c2, c3]
    funext j
    unfold va_cpy
    split <;> rfl
  rw [hf]
  intro H1 locs1 hP1 hD1 hS1
  exact kk H1 locs1 ls (by rw [← dW_set]; exact hP1) (by rw [← dW_set]; exact hD1) hS1 hl
/-- an array's content by other words: the same below its length -/
theorem kR.ext (h : kR l cc nL own ini R Fin G) (q : Nat) {N : Nat} {f : Nat → Nat} (g : Nat → Nat) {w' : sW} (hw : w[q]? = some (b, .inl (N, f))) (he : ∀ j, j < N → f j = g j) (hs : w.set q (b, .inl (N, g)) = w') (kk : G pc lv st w' k n) : G pc lv st w k n := by
  obtain ⟨p, e, s, m, args, below, meth, c, D, cA, A, Q, C0, rfl, -⟩ := h
  subst hs
  intro H locs ls hP hD hS hl
  have hq : q < (dW cA w).length := (List.getElem?_eq_some_iff.mp (dW_at (cA := cA) hw)).1
  have hcell : arrV cA N (fun j => .int (nI (f j))) = arrV cA N (fun j => .int (nI (g j))) := by
    unfold arrV
    congr 1
    apply congrArg
    funext j
    show Value.int (nI (f j.val)) = Value.int (nI (g j.val))
    rw [he j.val j.isLt]
  refine kk H locs ls ?_ ?_ hS hl
  · rw [← dW_set]
    intro i x hi
    rw [List.getElem?_set] at hi
    split at hi
    · rename_i e
      subst e
      cases hi
      have h1 : H[b]? = some (arrV cA N (fun j => .int (nI (f j)))) := hP q _ (dW_at hw)
      show H[b]? = some (arrV cA N (fun j => .int (nI (g j))))
      rw [h1, hcell]
    · exact hP i x hi
  · rw [← dW_set]
    have key : ∀ (i : Nat) (x : Nat × va_E), ((dW cA w).set q (b, dE cA (.inl (N, g))))[i]? = some x → ∃ y, (dW cA w)[i]? = some (x.1, y) := by
      intro i x hi
      rw [List.getElem?_set] at hi
      split at hi
      · rename_i e
        subst e
        cases hi
        exact ⟨_, dW_at hw⟩
      · exact ⟨x.2, hi⟩
    refine ⟨fun i j x y hi hj hxy => ?_, fun i x hi => ?_⟩
    · obtain ⟨x2, hx⟩ := key i x hi
      obtain ⟨y2, hy⟩ := key j y hj
      exact hD.1 i j _ _ hx hy hxy
    · obtain ⟨x2, hx⟩ := key i x hi
      exact hD.2 i (x.1, x2) hx
end KRV
theorem loop_up {P : Nat → Prop} (N : Nat) (step : ∀ i, i ≤ N → (i < N → P (i + 1)) → P i) : ∀ i, i ≤ N → P i := by
  intro i hi
  obtain ⟨d, hd⟩ : ∃ d, d = N - i := ⟨_, rfl⟩
  induction d generalizing i with
  | zero => exact step i hi (fun h => absurd h (by omega))
  | succ d ih => exact step i hi (fun h => ih (i + 1) h (by omega))
/-- the places p .. p + n - 1 hold what A says -/
def sSg (A f : Nat → Nat) (p n : Nat) : Nat → Nat := fun j => if p ≤ j ∧ j < p + n then A (j - p) else f j
theorem sSg_0 (A f : Nat → Nat) (p j : Nat) : f j = sSg A f p 0 j := by unfold sSg; rw [if_neg (by omega)]
theorem sSg_up {A f : Nat → Nat} {p n v i : Nat} (hv : v = A n) (hi : i = p + n) (j : Nat) : va_up (sSg A f p n) i v j = sSg A f p (n + 1) j := by
  subst hi
  unfold va_up sSg
  by_cases h : j = p + n
  · rw [if_pos h, if_pos (by omega), hv]; congr 1; omega
  · rw [if_neg h]
    by_cases h2 : p ≤ j ∧ j < p + n
    · rw [if_pos h2, if_pos (by omega)]
    · rw [if_neg h2, if_neg (by omega)]
theorem sSg_in {A f : Nat → Nat} {p n j : Nat} (h1 : p ≤ j) (h2 : j < p + n) : sSg A f p n j = A (j - p) := by unfold sSg; rw [if_pos ⟨h1, h2⟩]
theorem sSg_out {A f : Nat → Nat} {p n j : Nat} (h : j < p ∨ p + n ≤ j) : sSg A f p n j = f j := by unfold sSg; rw [if_neg (by omega)]
/-! ends of methods -/
theorem sA1 {p : Prop} (a : p) : sAll [p] := a
theorem sAc {p q : Prop} {r : List Prop} (a : p) (b : sAll (q :: r)) : sAll (p :: q :: r) := ⟨a, b⟩
section KE
variable {l : Launch} {cc : ByteArray} {nL : Nat} {own : String} {ini : Bool} {R rm : Room} {G : kT} {Post : Option sV → sW → Prop} {pc k n : Nat} {lv : sL} {w : sW}
theorem kR.vret (h : kR l cc nL own ini R (kFin cc none rm Post) G) (hd : decode cc pc = .ok (.return_, 1)) (hp : Post none w) (hk : k ≤ rm.cells) (hn : n ≤ rm.slots) : G pc lv [] w k n := h.fin ⟨none, ⟨rfl, Or.inl ⟨rfl, rfl, hd⟩⟩, hp, hk, hn⟩
theorem kR.iret {v : sV} {x : Int32} (h : kR l cc nL own ini R (kFin cc (some .int) rm Post) G) (hd : decode cc pc = .ok (.ireturn, 1)) (hv : sI v = some x) (hp : Post (some v) w) (hk : k ≤ rm.cells) (hn : n ≤ rm.slots) : G pc lv [v] w k n := h.fin ⟨some v, ⟨rfl, Or.inr (Or.inl ⟨v, x, .int, rfl, rfl, hv, rfl, hd⟩)⟩, hp, hk, hn⟩
theorem kR.zret {b : Nat} (h : kR l cc nL own ini R (kFin cc (some .boolean) rm Post) G) (hb : b < 2) (hd : decode cc pc = .ok (.ireturn, 1)) (hp : Post (some (.inl b)) w) (hk : k ≤ rm.cells) (hn : n ≤ rm.slots) : G pc lv [.inl b] w k n := by
  refine h.fin ⟨some (.inl b), ⟨rfl, Or.inr (Or.inl ⟨.inl b, nI b, .boolean, rfl, rfl, rfl, ?_, hd⟩)⟩, hp, hk, hn⟩
  rcases (by omega : b = 0 ∨ b = 1) with rfl | rfl <;> rfl
theorem kR.lret {x : Int64} (h : kR l cc nL own ini R (kFin cc (some .long) rm Post) G) (hd : decode cc pc = .ok (.lreturn, 1)) (hp : Post (some (.inr (.long x))) w) (hk : k ≤ rm.cells) (hn : n ≤ rm.slots) : G pc lv [.inr (.long x)] w k n := h.fin ⟨some (.inr (.long x)), ⟨rfl, Or.inr (Or.inr (Or.inl ⟨x, rfl, rfl, hd⟩))⟩, hp, hk, hn⟩
theorem kR.aret {a : Nat} {ty : FieldType} (h : kR l cc nL own ini R (kFin cc (some ty) rm Post) G) (hty : (∃ n, ty = .object n) ∨ ∃ t, ty = .array t) (hd : decode cc pc = .ok (.areturn, 1)) (hp : Post (some (.inr (.ref a))) w) (hk : k ≤ rm.cells) (hn : n ≤ rm.slots) : G pc lv [.inr (.ref a)] w k n := h.fin ⟨some (.inr (.ref a)), ⟨rfl, Or.inr (Or.inr (Or.inr ⟨a, ty, rfl, hty, rfl, hd⟩))⟩, hp, hk, hn⟩
end KE
theorem kd_neg {m : Nat} (hm : m < 2147483648) : nI m - 1 < 0 ↔ m = 0 := by
  cases m with
  | zero => exact ⟨fun _ => rfl, fun _ => by decide⟩
  | succ m => exact ⟨fun h => absurd h (by rw [nI_pred]; exact nI_pos (by omega)), fun h => absurd h (by omega)⟩
theorem kd_dec (m : Nat) : nI m + Int32.ofInt (-1) = nI m - 1 := by rw [Int32.sub_eq_add_neg]; rfl
