/-! the law's own walk -/
section KRX
variable {l : Launch} {cc : ByteArray} {nL : Nat} {own : String} {ini : Bool} {R : Room} {Fin : Nat → List sV → sW → Nat → Nat → Prop} {G : kT} {pc pc2 k n : Nat} {lv : sL} {st : List sV} {w : sW}
theorem kR.lcmp (h : kR l cc nL own ini R Fin G) {x y : Int64} (hd : decode cc pc = .ok (.lcmp, 1)) (kk : G (pc + 1) lv (.inr (.int (lg_cmp x y)) :: st) w k n) : G pc lv (.inr (.long y) :: .inr (.long x) :: st) w k n := by
  obtain ⟨p, e, s, m, args, below, meth, c, D, cA, A, Q, ⟨⟨hx, hb, -⟩, -⟩, rfl, -⟩ := h
  exact fun H locs ls hP hD hS hl => W.lcmp hx hb hd (kk H locs ls hP hD hS hl)
theorem kR.swIn (h : kR l cc nL own ini R Fin G) {a : sV} {x : Int32} {dflt lo hi off : Int} {offs : Array Int} {len : Nat} (hd : decode cc pc = .ok (.tableswitch dflt lo hi offs, len)) (ha : sI a = some x) (h1 : ¬ x.toInt < lo) (h2 : ¬ hi < x.toInt) (ho : offs[(x.toInt - lo).toNat]? = some off) (ht : (pc : Int) + off = (pc2 : Int)) (kk : G pc2 lv st w k n) : G pc lv (a :: st) w k n := by
  obtain ⟨p, e, s, m, args, below, meth, c, D, cA, A, Q, ⟨⟨hx, hb, -⟩, -⟩, rfl, -⟩ := h
  intro H locs ls hP hD hS hl
  show W p l e R s m args below meth c H locs k n Q (F0 m pc ls (dV a :: st.map dV))
  rw [sI_dV ha]
  exact lv_tableIn hx hb hd h1 h2 ho ht (kk H locs ls hP hD hS hl)
theorem kR.swOut (h : kR l cc nL own ini R Fin G) {a : sV} {x : Int32} {dflt lo hi : Int} {offs : Array Int} {len : Nat} (hd : decode cc pc = .ok (.tableswitch dflt lo hi offs, len)) (ha : sI a = some x) (h1 : x.toInt < lo ∨ hi < x.toInt) (ht : (pc : Int) + dflt = (pc2 : Int)) (kk : G pc2 lv st w k n) : G pc lv (a :: st) w k n := by
  obtain ⟨p, e, s, m, args, below, meth, c, D, cA, A, Q, ⟨⟨hx, hb, -⟩, -⟩, rfl, -⟩ := h
  intro H locs ls hP hD hS hl
  show W p l e R s m args below meth c H locs k n Q (F0 m pc ls (dV a :: st.map dV))
  rw [sI_dV ha]
  exact lv_tableOut hx hb hd h1 ht (kk H locs ls hP hD hS hl)
end KRX
/-- the law's machine, with its script -/
def kRL (l : Launch) (b L : Nat) (xs : Nat → Int32) (G : kT) : Prop :=
  ∃ (p : Program) (e : Env) (s : State) (m : MethodId) (below : List Frame) (meth : Method) (c : Code) (D : va_G) (cA : ClassId) (Q : State → Prop),
    kC p s m #[Value.ref b] meth c code 4 RL false D cA (fun q => s.heap.size ≤ q) ∧ G = kAt p l e room_1 s m #[Value.ref b] below meth c D cA (fun q => s.heap.size ≤ q) 4 Q ∧
    (∀ pc lv w k n, decode code pc = .ok (.ireturn, 1) → k ≤ 51 → n ≤ 19279 → G pc lv [.inl 1] w k n) ∧ va_X b L xs s s.heap ∧ b < s.heap.size
def kFinL (pc : Nat) (st : List sV) (_ : sW) (k n : Nat) : Prop := st = [.inl 1] ∧ decode code pc = .ok (.ireturn, 1) ∧ k ≤ 51 ∧ n ≤ 19279
section KRLS
variable {l : Launch} {b L : Nat} {xs : Nat → Int32} {G : kT} {pc k n : Nat} {lv : sL} {st : List sV} {w : sW}
theorem kRL.toR (h : kRL l b L xs G) : kR l code 4 RL false room_1 kFinL G := by
  obtain ⟨p, e, s, m, below, meth, c, D, cA, Q, C0, hG, hf, -, -⟩ := h
  refine ⟨p, e, s, m, #[Value.ref b], below, meth, c, D, cA, _, Q, C0, hG, ?_⟩
  intro pc lv st w k n hF
  obtain ⟨rfl, hd, hk, hn⟩ := hF
  exact hf pc lv w k n hd hk hn
theorem kRL.sld (h : kRL l b L xs G) {i : Nat} (hi : i < L) (hL : L < 2147483648) (hd : decode code pc = .ok (.iaload, 1)) (kk : G (pc + 1) lv (.inr (.int (xs i)) :: st) w k n) : G pc lv (.inl i :: .inr (.ref b) :: st) w k n := by
  obtain ⟨p, e, s, m, below, meth, c, D, cA, Q, ⟨⟨hx, hb, -⟩, -⟩, rfl, -, hX, hbl⟩ := h
  intro H locs ls hP hD hS hl
  have hc : (nI i).toNatClampNeg = i := nI_clamp (by omega)
  refine va_sld hx hb hX hbl (Nat.not_le.mpr hbl) hS (vp_in_nI hi hL) hd ?_
  rw [hc]
  exact kk H locs ls hP hD hS hl
theorem kRL.slen (h : kRL l b L xs G) (hd : decode code pc = .ok (.arraylength, 1)) (kk : G (pc + 1) lv (.inl L :: st) w k n) : G pc lv (.inr (.ref b) :: st) w k n := by
  obtain ⟨p, e, s, m, below, meth, c, D, cA, Q, ⟨⟨hx, hb, -⟩, -⟩, rfl, -, hX, hbl⟩ := h
  exact fun H locs ls hP hD hS hl => va_slen hx hb hX hbl (Nat.not_le.mpr hbl) hS hd (kk H locs ls hP hD hS hl)
end KRLS
