/-! calls over a part of the world: the rest stays -/
theorem nd_app : ∀ (a b : List Nat), va_nd a = true → va_nd b = true → (∀ x ∈ a, x ∉ b) → va_nd (a ++ b) = true
  | [], _, _, hb, _ => hb
  | x :: a, b, ha, hb, hd => by
    simp only [va_nd, Bool.and_eq_true, decide_eq_true_eq] at ha
    show va_nd (x :: (a ++ b)) = true
    simp only [va_nd, Bool.and_eq_true, decide_eq_true_eq]
    refine ⟨fun h => ?_, nd_app a b ha.2 hb (fun y hy => hd y (List.mem_cons_of_mem _ hy))⟩
    rcases List.mem_append.mp h with h | h
    · exact ha.1 h
    · exact hd x List.mem_cons_self h
theorem nd_map : ∀ (a : List Nat) (f : Nat → Nat), va_nd a = true → (∀ x ∈ a, ∀ y ∈ a, f x = f y → x = y) → va_nd (a.map f) = true
  | [], _, _, _ => rfl
  | x :: a, f, ha, hf => by
    simp only [va_nd, Bool.and_eq_true, decide_eq_true_eq] at ha
    show va_nd (f x :: a.map f) = true
    simp only [va_nd, Bool.and_eq_true, decide_eq_true_eq]
    refine ⟨fun h => ?_, nd_map a f ha.2 (fun p hp q hq => hf p (List.mem_cons_of_mem _ hp) q (List.mem_cons_of_mem _ hq))⟩
    obtain ⟨z, hz, e⟩ := List.mem_map.mp h
    have e2 := hf z (List.mem_cons_of_mem _ hz) x List.mem_cons_self e
    rw [e2] at hz
    exact ha.1 hz
theorem nd_of : ∀ {l : List Nat}, l.Nodup → va_nd l = true
  | [], _ => rfl
  | a :: l, h => by
    simp only [va_nd, Bool.and_eq_true, decide_eq_true_eq]
    exact ⟨(List.nodup_cons.mp h).1, nd_of (List.nodup_cons.mp h).2⟩
theorem nd_range (n : Nat) : va_nd (List.range n) = true := nd_of (by simp [List.nodup_range])
theorem k_range {α : Type} (u x : List α) : (List.range u.length).map (fun i => (u ++ x)[i]?) = u.map some := by
  apply List.ext_getElem?
  intro i
  rw [List.getElem?_map, List.getElem?_map]
  by_cases h : i < u.length
  · rw [List.getElem?_range h, Option.map_some, List.getElem?_append_left h, List.getElem?_eq_getElem h]
    rfl
  · rw [List.getElem?_eq_none (by rw [List.length_range]; omega), List.getElem?_eq_none (by omega)]
    rfl
theorem k_inl {α : Type} {is : List Nat} {v w : List α} (h : is.map (fun i => v[i]?) = w.map some) : ∀ i ∈ is, i < v.length := by
  intro i hi
  have h1 : v[i]? ∈ is.map (fun i => v[i]?) := List.mem_map.mpr ⟨i, hi, rfl⟩
  rw [h] at h1
  obtain ⟨x, _, e⟩ := List.mem_map.mp h1
  exact (List.getElem?_eq_some_iff.mp e.symm).1
theorem k_mid {α : Type} (u v t : List α) {i : Nat} (hi : i < v.length) : (u ++ (v ++ t))[u.length + i]? = v[i]? := by
  rw [List.getElem?_append_right (Nat.le_add_right _ _), Nat.add_sub_cancel_left, List.getElem?_append_left hi]
theorem k_end {α : Type} (u v t : List α) (i : Nat) : (u ++ (v ++ t))[u.length + v.length + i]? = t[i]? := by
  rw [Nat.add_assoc, List.getElem?_append_right (Nat.le_add_right _ _), Nat.add_sub_cancel_left, List.getElem?_append_right (Nat.le_add_right _ _), Nat.add_sub_cancel_left]
theorem k_pick {α : Type} (u v t : List α) {is : List Nat} {w : List α} (h : is.map (fun i => v[i]?) = w.map some) : (List.range u.length ++ (is.map (fun i => u.length + i) ++ (List.range t.length).map (fun i => u.length + v.length + i))).map (fun i => (u ++ (v ++ t))[i]?) = (u ++ (w ++ t)).map some := by
  have e1 : (List.range u.length).map (fun i => (u ++ (v ++ t))[i]?) = u.map some := k_range _ _
  have e2 : (is.map (fun i => u.length + i)).map (fun i => (u ++ (v ++ t))[i]?) = w.map some := by
    rw [List.map_map, ← h]
    exact List.map_congr_left (fun i hi => k_mid u v t (k_inl h i hi))
  have e3 : ((List.range t.length).map (fun i => u.length + v.length + i)).map (fun i => (u ++ (v ++ t))[i]?) = t.map some := by
    rw [List.map_map]
    have e : ∀ i ∈ List.range t.length, ((fun i => (u ++ (v ++ t))[i]?) ∘ (fun i => u.length + v.length + i)) i = (t ++ [])[i]? := fun i _ => by
      rw [List.append_nil]
      exact k_end u v t i
    rw [List.map_congr_left e]
    exact k_range t []
  rw [List.map_append, List.map_append, e1, e2, e3, List.map_append, List.map_append]
theorem k_ndm {is : List Nat} (a b n : Nat) (h : va_nd is = true) (hi : ∀ i ∈ is, i < b) : va_nd (List.range a ++ (is.map (fun i => a + i) ++ (List.range n).map (fun i => a + b + i))) = true := by
  refine nd_app _ _ (nd_range _) (nd_app _ _ (nd_map _ _ h (fun x _ y _ e => Nat.add_left_cancel e)) (nd_map _ _ (nd_range _) (fun x _ y _ e => Nat.add_left_cancel e)) ?_) ?_
  · intro x hx h2
    obtain ⟨z, hz, e⟩ := List.mem_map.mp hx
    obtain ⟨z2, hz2, e2⟩ := List.mem_map.mp h2
    have e : a + z = x := e
    have e2 : a + b + z2 = x := e2
    have := hi z hz
    omega
  · intro x hx h2
    have hx := List.mem_range.mp hx
    rcases List.mem_append.mp h2 with h2 | h2
    · obtain ⟨z, hz, e⟩ := List.mem_map.mp h2
      have e : a + z = x := e
      omega
    · obtain ⟨z, hz, e⟩ := List.mem_map.mp h2
      have e : a + b + z = x := e
      omega
/-- a method of the object b may be called in the world w; behind it: Post -/
def kBig (l : Launch) (y : MethodName) (cc : ByteArray) (nL : Nat) (ret : Option FieldType) (ci b : Nat) (as : List sV) (w : sW) (Post : Option sV → sW → Prop) : Prop :=
  ∃ (rm : Room) (wc wr : sW) (Pc : Option sV → sW → Prop) (isC isR : List Nat), (rm.frames ≤ 7 ∧ nL + rm.locals ≤ 168 ∧ rm.cells = 0 ∧ rm.slots = 0) ∧ (∃ (q : Nat) (fs : List sV), w[q]? = some (b, .inr (ci, fs))) ∧
    kMet l y cc nL ret rm (.inr (.ref b) :: as) wc Pc ∧ va_nd isC = true ∧ isC.map (fun i => w[i]?) = wc.map some ∧ isR.map (fun i => w[i]?) = wr.map some ∧ va_nd isR = true ∧ (∀ i ∈ isR, i ∉ isC) ∧
    ∀ r w1, Pc r w1 → ∃ (isP : List Nat) (w' : sW), va_nd isP = true ∧ isP.map (fun i => (wr ++ w1)[i]?) = w'.map some ∧ Post r w'
theorem kMet.av {l : Launch} {y : MethodName} {cc : ByteArray} {nL : Nat} {ret : Option FieldType} {rm : Room} {av av' : List sV} {w : sW} {Post : Option sV → sW → Prop} (h : kMet l y cc nL ret rm av w Post) (e : av.map dV = av'.map dV) : kMet l y cc nL ret rm av' w Post := by
  intro D cA sz
  have h1 := h D cA sz
  unfold kPre at h1 ⊢
  rw [← e]
  exact h1
section KB
variable {l : Launch} {y : MethodName} {cc : ByteArray} {nL : Nat} {ret : Option FieldType} {ci b : Nat} {as as' : List sV} {w v : sW} {Post Post' : Option sV → sW → Prop}
theorem kBig.mk {rm : Room} {wc wr : sW} {Pc : Option sV → sW → Prop} (hM : kMet l y cc nL ret rm (.inr (.ref b) :: as) wc Pc) (hr : rm.frames ≤ 7 ∧ nL + rm.locals ≤ 168 ∧ rm.cells = 0 ∧ rm.slots = 0) (q : Nat) {fs : List sV} (hq : w[q]? = some (b, .inr (ci, fs))) (isC isR : List Nat) (hnC : va_nd isC = true) (hC : isC.map (fun i => w[i]?) = wc.map some) (hR : isR.map (fun i => w[i]?) = wr.map some) (hnR : va_nd isR = true) (hdis : ∀ i ∈ isR, i ∉ isC)
    (hk : ∀ r w1, Pc r w1 → ∃ (isP : List Nat) (w' : sW), va_nd isP = true ∧ isP.map (fun i => (wr ++ w1)[i]?) = w'.map some ∧ Post r w') : kBig l y cc nL ret ci b as w Post :=
  ⟨rm, wc, wr, Pc, isC, isR, hr, ⟨q, fs, hq⟩, hM, hnC, hC, hR, hnR, hdis, hk⟩
theorem kBig.av (h : kBig l y cc nL ret ci b as w Post) (e : as.map dV = as'.map dV) : kBig l y cc nL ret ci b as' w Post := by
  obtain ⟨rm, wc, wr, Pc, isC, isR, hr, hq, hM, hx⟩ := h
  exact ⟨rm, wc, wr, Pc, isC, isR, hr, hq, hM.av (by rw [List.map_cons, List.map_cons, e]), hx⟩
theorem kBig.imp (h : kBig l y cc nL ret ci b as w Post) (f : ∀ r w', Post r w' → Post' r w') : kBig l y cc nL ret ci b as w Post' := by
  obtain ⟨rm, wc, wr, Pc, isC, isR, hr, hq, hM, h1, h2, h3, h4, h5, hk⟩ := h
  refine ⟨rm, wc, wr, Pc, isC, isR, hr, hq, hM, h1, h2, h3, h4, h5, fun r w1 hp => ?_⟩
  obtain ⟨isP, w', a, c, d⟩ := hk r w1 hp
  exact ⟨isP, w', a, c, f r w' d⟩
theorem kBig.frame (h : kBig l y cc nL ret ci b as v Post) (u t : sW) : kBig l y cc nL ret ci b as (u ++ (v ++ t)) (fun r w' => ∃ v', Post r v' ∧ w' = u ++ (v' ++ t)) := by
  obtain ⟨rm, wc, wr, Pc, isC, isR, hr, ⟨q, fs, hq⟩, hM, hnC, hC, hR, hnR, hdis, hk⟩ := h
  have inC := k_inl hC
  have inR := k_inl hR
  have hql : q < v.length := (List.getElem?_eq_some_iff.mp hq).1
  refine ⟨rm, wc, u ++ (wr ++ t), Pc, isC.map (fun i => u.length + i), List.range u.length ++ (isR.map (fun i => u.length + i) ++ (List.range t.length).map (fun i => u.length + v.length + i)), hr, ⟨u.length + q, fs, (k_mid u v t hql).trans hq⟩, hM, nd_map _ _ hnC (fun x _ y _ e => Nat.add_left_cancel e), ?_, k_pick u v t hR, k_ndm _ _ _ hnR inR, ?_, ?_⟩
  · rw [List.map_map, ← hC]
    exact List.map_congr_left (fun i hi => k_mid u v t (inC i hi))
  · intro i hi h2
    obtain ⟨z, hz, e⟩ := List.mem_map.mp h2
    have e : u.length + z = i := e
    have hzl := inC z hz
    rcases List.mem_append.mp hi with hi | hi
    · have := List.mem_range.mp hi
      omega
    · rcases List.mem_append.mp hi with hi | hi
      · obtain ⟨z2, hz2, e2⟩ := List.mem_map.mp hi
        have e2 : u.length + z2 = i := e2
        rw [show z = z2 by omega] at hz
        exact hdis z2 hz2 hz
      · obtain ⟨z2, hz2, e2⟩ := List.mem_map.mp hi
        have e2 : u.length + v.length + z2 = i := e2
        omega
  · intro r w1 hp
    obtain ⟨isP, w', hnP, hP, hq'⟩ := hk r w1 hp
    have inP := k_inl hP
    have hlen : ∀ i, i ∈ isP → i < wr.length + w1.length := fun i hi => by
      have := inP i hi
      rw [List.length_append] at this
      exact this
    refine ⟨List.range u.length ++ (isP.map (fun i => if i < wr.length then u.length + i else t.length + (u.length + i)) ++ (List.range t.length).map (fun i => u.length + wr.length + i)), u ++ (w' ++ t), ?_, ?_, w', hq', rfl⟩
    · refine nd_app _ _ (nd_range _) (nd_app _ _ (nd_map _ _ hnP (fun x hx y hy e => ?_)) (nd_map _ _ (nd_range _) (fun x _ y _ e => Nat.add_left_cancel e)) ?_) ?_
      · have e : (if x < wr.length then u.length + x else t.length + (u.length + x)) = (if y < wr.length then u.length + y else t.length + (u.length + y)) := e
        split at e <;> split at e <;> omega
      · intro x hx h2
        obtain ⟨z, hz, e⟩ := List.mem_map.mp hx
        obtain ⟨z2, hz2, e2⟩ := List.mem_map.mp h2
        have e : (if z < wr.length then u.length + z else t.length + (u.length + z)) = x := e
        have e2 : u.length + wr.length + z2 = x := e2
        have := List.mem_range.mp hz2
        split at e <;> omega
      · intro x hx h2
        have hx := List.mem_range.mp hx
        rcases List.mem_append.mp h2 with h2 | h2
        · obtain ⟨z, hz, e⟩ := List.mem_map.mp h2
          have e : (if z < wr.length then u.length + z else t.length + (u.length + z)) = x := e
          split at e <;> omega
        · obtain ⟨z, hz, e⟩ := List.mem_map.mp h2
          have e : u.length + wr.length + z = x := e
          omega
    · have e1 : (List.range u.length).map (fun i => ((u ++ (wr ++ t)) ++ w1)[i]?) = u.map some := by
        rw [List.append_assoc]
        exact k_range _ _
      have e2 : (isP.map (fun i => if i < wr.length then u.length + i else t.length + (u.length + i))).map (fun i => ((u ++ (wr ++ t)) ++ w1)[i]?) = w'.map some := by
        rw [List.map_map, ← hP]
        refine List.map_congr_left (fun i hi => ?_)
        show ((u ++ (wr ++ t)) ++ w1)[if i < wr.length then u.length + i else t.length + (u.length + i)]? = (wr ++ w1)[i]?
        by_cases hi2 : i < wr.length
        · rw [if_pos hi2, List.getElem?_append_left (by rw [List.length_append, List.length_append]; omega), k_mid u wr t hi2, List.getElem?_append_left hi2]
        · rw [if_neg hi2, List.getElem?_append_right (by rw [List.length_append, List.length_append]; omega), List.getElem?_append_right (by omega), List.length_append, List.length_append]
          congr 1
          omega
      have e3 : ((List.range t.length).map (fun i => u.length + wr.length + i)).map (fun i => ((u ++ (wr ++ t)) ++ w1)[i]?) = t.map some := by
        rw [List.map_map]
        have e : ∀ i ∈ List.range t.length, ((fun i => ((u ++ (wr ++ t)) ++ w1)[i]?) ∘ (fun i => u.length + wr.length + i)) i = (t ++ [])[i]? := fun i hi => by
          have hi := List.mem_range.mp hi
          rw [List.append_nil]
          show ((u ++ (wr ++ t)) ++ w1)[u.length + wr.length + i]? = t[i]?
          rw [List.getElem?_append_left (by rw [List.length_append, List.length_append]; omega)]
          exact k_end u wr t i
        rw [List.map_congr_left e]
        exact k_range t []
      rw [List.map_append, List.map_append, e1, e2, e3, List.map_append, List.map_append]
theorem kBig.left (h : kBig l y cc nL ret ci b as v Post) (t : sW) : kBig l y cc nL ret ci b as (v ++ t) (fun r w' => ∃ v', Post r v' ∧ w' = v' ++ t) := h.frame [] t
theorem kBig.right (h : kBig l y cc nL ret ci b as v Post) (u : sW) : kBig l y cc nL ret ci b as (u ++ v) (fun r w' => ∃ v', Post r v' ∧ w' = u ++ v') := by
  have h1 := h.frame u []
  rw [List.append_nil] at h1
  refine h1.imp (fun r w' hp => ?_)
  obtain ⟨v', hv, e⟩ := hp
  exact ⟨v', hv, by rw [e, List.append_nil]⟩
end KB
/-- the call itself -/
theorem kR.callB {l : Launch} {cc cc' : ByteArray} {nL nL' : Nat} {own C : String} {ini : Bool} {R : Room} {Fin : Nat → List sV → sW → Nat → Nat → Prop} {G : kT} {y : MethodName} {ret : Option FieldType} {as : List sV} {Post : Option sV → sW → Prop} {pc k n idx b ci : Nat} {lv : sL} {st rest : List sV} {w : sW} (h : kR l cc nL own ini R Fin G) (hB : kBig l y cc' nL' ret ci b as w Post) (hci : (vwCl[ci]?).map (fun q => q.1) = some C) (hd : decode cc pc = .ok (.invokevirtual idx, 3)) (hL : kLinkV own idx C y) (hc : kCode y cc' nL' ret) (ha : kArgs y as.length) (hroom : 8 ≤ R.frames ∧ 187 ≤ R.locals) (hf : k ≤ R.cells ∧ n ≤ R.slots)
    (hst : st = as.reverse ++ .inr (.ref b) :: rest) (hcat : ((rest.map dV).map fun v => v.category).sum ≤ 8) (kk : ∀ r w', Post r w' → G (pc + 3) lv (r.toList ++ rest) w' k n) : G pc lv st w k n := by
  obtain ⟨rm, wc, wr, Pc, isC, isR, ⟨h1, h2, h3, h4⟩, ⟨q, fs, hq⟩, hM, hnC, hC, hR, hnR, hdis, hk⟩ := hB
  refine h.callV q hM hq hci hd hL hc ha ⟨by omega, by omega⟩ ⟨by omega, by omega⟩ hst hcat isC isR hnC hC hR hnR hdis (fun r w1 hp => ?_)
  obtain ⟨isP, w', hnP, hP, hq'⟩ := hk r w1 hp
  refine h.sub isP hnP hP ?_
  rw [h3, h4]
  exact kk r w' hq'
/-- a world by other words -/
def kXt (w w' : sW) : Prop := ∀ (l : Launch) (cc : ByteArray) (nL : Nat) (own : String) (ini : Bool) (R : Room) (Fin : Nat → List sV → sW → Nat → Nat → Prop) (G : kT), kR l cc nL own ini R Fin G → ∀ pc lv st k n, G pc lv st w' k n → G pc lv st w k n
theorem kXt.rf (w : sW) : kXt w w := fun _ _ _ _ _ _ _ _ _ _ _ _ _ _ h => h
def sameI (r r' : Option sV) : Prop := ∃ (v v' : sV) (x : Int32), r = some v ∧ r' = some v' ∧ sI v = some x ∧ sI v' = some x
def sameL (r r' : Option sV) : Prop := ∃ x : Int64, r = some (.inr (.long x)) ∧ r' = some (.inr (.long x))
def oneI (r : Option sV) : Prop := ∃ (v : sV) (x : Int32), r = some v ∧ sI v = some x
def oneL (r : Option sV) : Prop := ∃ x : Int64, r = some (.inr (.long x))
theorem cat_I {v : sV} {x : Int32} (h : sI v = some x) : ((([v] : List sV).map dV).map fun v => v.category).sum ≤ 8 := by
  show (((dV v).category + 0 : Nat)) ≤ 8
  rw [sI_dV h]
  exact Nat.le_of_ble_eq_true rfl
