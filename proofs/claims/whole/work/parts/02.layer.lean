/-! A small machine over the kit: values that are numbers known as Nat (.inl n stands for nI n) or any value (.inr v); worlds of int arrays with contents in Nat, and objects. -/
abbrev sV : Type := Nat ⊕ Value
def dV (v : sV) : Value := match v with
  | .inl n => .int (nI n)
  | .inr x => x
abbrev sL : Type := List (Nat × sV)
def dL (l : sL) : List (Nat × Value) := l.map (fun q => (q.1, dV q.2))
abbrev sE : Type := (Nat × (Nat → Nat)) ⊕ (Nat × List sV)
abbrev sW : Type := List (Nat × sE)
def dE (cA : ClassId) (x : sE) : va_E := match x with
  | .inl a => .inl (cA, a.1, .inl (fun j => nI (a.2 j)))
  | .inr o => .inr (o.1, o.2.map dV)
def dW (cA : ClassId) (w : sW) : va_W := w.map (fun q => (q.1, dE cA q.2))
theorem dW_at {cA : ClassId} {w : sW} {k : Nat} {q : Nat × sE} (h : w[k]? = some q) : (dW cA w)[k]? = some (q.1, dE cA q.2) := by
  unfold dW
  rw [List.getElem?_map, h]
  rfl
theorem dW_set {cA : ClassId} {w : sW} {k a : Nat} {x : sE} : (dW cA w).set k (a, dE cA x) = dW cA (w.set k (a, x)) := by
  unfold dW
  rw [List.map_set]
theorem dW_app {cA : ClassId} {w : sW} {a : Nat} {x : sE} : dW cA w ++ [(a, dE cA x)] = dW cA (w ++ [(a, x)]) := by
  unfold dW
  rw [List.map_append]
  rfl
def sI (v : sV) : Option Int32 := match v with
  | .inl n => some (nI n)
  | .inr (.int x) => some x
  | _ => none
theorem sI_dV {v : sV} {x : Int32} (h : sI v = some x) : dV v = .int x := by
  unfold sI at h
  split at h
  · cases h; rfl
  · cases h; rfl
  · cases h
/-- the tables: classes and int[] -/
def kG (D : va_G) (cA : ClassId) (NW : List Cond) (U : State) : Prop := va_K D vwCl [(cA, .int)] U ∧ ∀ w ∈ NW, va_Nw w U
/-- at pc, with these locals, this stack and this world: the machine comes to Q -/
def kAt (p : Program) (l : Launch) (e : Env) (R : Room) (s : State) (m : MethodId) (args : Array Value) (below : List Frame) (meth : Method) (c : Code) (D : va_G) (cA : ClassId) (A : Nat → Prop) (nL : Nat) (Q : State → Prop) : Nat → sL → List sV → sW → Nat → Nat → Prop := fun pc lv st w k n =>
  ∀ (H : Heap) (locs : List Loc) (ls : Array Slot), va_P D vwCl (dW cA w) H → va_D A (dW cA w) → va_S A s.heap H locs → lv_has ls nL (dL lv) → W p l e R s m args below meth c H locs k n Q (F0 m pc ls (st.map dV))
abbrev sR : Type := sL × List sV × sW × List Prop
def sGet (lv : sL) (i : Nat) : Option sV := (lv.find? (fun q => q.1 == i)).map (fun q => q.2)
def sPut (lv : sL) (i : Nat) (v : sV) : sL := (i, v) :: lv.filter (fun q => !(q.1 == i) && !(q.1 + 1 == i && (dV q.2).category == 2))
def sPutL (lv : sL) (i : Nat) (v : sV) : sL := (i, v) :: lv.filter (fun q => !(q.1 == i) && (!(q.1 == i + 1) && !(q.1 + 1 == i && (dV q.2).category == 2)))
theorem sGet_has {ls : Array Slot} {nL : Nat} {lv : sL} {i : Nat} {v : sV} (hl : lv_has ls nL (dL lv)) (h : sGet lv i = some v) : ls[i]? = some (.val (dV v)) := by
  unfold sGet at h
  cases hf : lv.find? (fun q => q.1 == i) with
  | none => rw [hf] at h; cases h
  | some q =>
    rw [hf] at h
    cases h
    have h1 := List.mem_of_find?_eq_some hf
    have h2 := List.find?_some hf
    have h3 : q.1 = i := by simpa using h2
    have h4 := hl.2.2 (q.1, dV q.2) (List.mem_map.mpr ⟨q, h1, rfl⟩)
    rw [← h3]
    exact h4
theorem sPut_eq {lv : sL} {i : Nat} {v : sV} : (i, dV v) :: (dL lv).filter (fun q => !(q.1 == i) && !(q.1 + 1 == i && q.2.category == 2)) = dL (sPut lv i v) := by
  unfold sPut dL
  rw [List.map_cons, List.filter_map]
  rfl
theorem sPutL_eq {lv : sL} {i : Nat} {v : sV} : (i, dV v) :: (dL lv).filter (fun q => !(q.1 == i) && (!(q.1 == i + 1) && !(q.1 + 1 == i && q.2.category == 2))) = dL (sPutL lv i v) := by
  unfold sPutL dL
  rw [List.map_cons, List.filter_map]
  rfl
/-! the steps of instructions that go on to the next one -/
def sLdI (lv : sL) (st : List sV) (w : sW) (i : Nat) : Option sR := match sGet lv i with
  | some (.inl x) => some (lv, .inl x :: st, w, [])
  | some (.inr (.int x)) => some (lv, .inr (.int x) :: st, w, [])
  | _ => none
def sLdA (lv : sL) (st : List sV) (w : sW) (i : Nat) : Option sR := match sGet lv i with
  | some (.inr (.ref x)) => some (lv, .inr (.ref x) :: st, w, [])
  | _ => none
def sLdL (lv : sL) (st : List sV) (w : sW) (i : Nat) : Option sR := match sGet lv i with
  | some (.inr (.long x)) => some (lv, .inr (.long x) :: st, w, [])
  | _ => none
def sStI (nL : Nat) (lv : sL) (st : List sV) (w : sW) (i : Nat) : Option sR := match st with
  | .inl x :: r => if i < nL then some (sPut lv i (.inl x), r, w, []) else none
  | .inr (.int x) :: r => if i < nL then some (sPut lv i (.inr (.int x)), r, w, []) else none
  | _ => none
def sStA (nL : Nat) (lv : sL) (st : List sV) (w : sW) (i : Nat) : Option sR := match st with
  | .inr (.ref x) :: r => if i < nL then some (sPut lv i (.inr (.ref x)), r, w, []) else none
  | _ => none
def sStL (nL : Nat) (lv : sL) (st : List sV) (w : sW) (i : Nat) : Option sR := match st with
  | .inr (.long x) :: r => if i + 1 < nL then some (sPutL lv i (.inr (.long x)), r, w, []) else none
  | _ => none
def sCon (b : Nat) (g : Int → Int32) (lv : sL) (st : List sV) (w : sW) (n : Int) : Option sR := match n with
  | .ofNat k => if k < b then some (lv, .inl k :: st, w, []) else none
  | .negSucc k => some (lv, .inr (.int (g (.negSucc k))) :: st, w, [])
def sBin (f : Nat → Nat → Nat) (g : Int32 → Int32 → Int32) (lv : sL) (st : List sV) (w : sW) : Option sR := match st with
  | .inl y :: .inl x :: r => some (lv, .inl (f x y) :: r, w, [])
  | b :: a :: r => match sI b, sI a with
    | some y, some x => some (lv, .inr (.int (g x y)) :: r, w, [])
    | _, _ => none
  | _ => none
/-- the same, with what must hold of the two numbers; with a hint: as ints -/
def sBinC (f : Nat → Nat → Nat) (ok : Nat → Nat → Prop) (g : Int32 → Int32 → Int32) (h : List Nat) (lv : sL) (st : List sV) (w : sW) : Option sR := match h with
  | [] => match st with
    | .inl y :: .inl x :: r => some (lv, .inl (f x y) :: r, w, [ok x y])
    | _ => none
  | _ => match st with
    | b :: a :: r => match sI b, sI a with
      | some y, some x => some (lv, .inr (.int (g x y)) :: r, w, [])
      | _, _ => none
    | _ => none
def sLL (g : Int64 → Int64 → Int64) (lv : sL) (st : List sV) (w : sW) : Option sR := match st with
  | .inr (.long y) :: .inr (.long x) :: r => some (lv, .inr (.long (g x y)) :: r, w, [])
  | _ => none
def sLS (g : Int64 → Int32 → Int64) (lv : sL) (st : List sV) (w : sW) : Option sR := match st with
  | b :: .inr (.long x) :: r => match sI b with
    | some y => some (lv, .inr (.long (g x y)) :: r, w, [])
    | none => none
  | _ => none
def sI2L (lv : sL) (st : List sV) (w : sW) : Option sR := match st with
  | a :: r => match sI a with
    | some x => some (lv, .inr (.long x.toInt64) :: r, w, [])
    | none => none
  | _ => none
def sL2I (lv : sL) (st : List sV) (w : sW) : Option sR := match st with
  | .inr (.long x) :: r => some (lv, .inr (.int x.toInt32) :: r, w, [])
  | _ => none
def sInc (nL : Nat) (h : List Nat) (lv : sL) (st : List sV) (w : sW) (i : Nat) (c : Int) : Option sR :=
  if i < nL then
    match h with
    | [] => match sGet lv i, c with
      | some (.inl x), .ofNat k => some (sPut lv i (.inl (x + k)), st, w, [])
      | some (.inl x), .negSucc k => some (sPut lv i (.inl (x - (k + 1))), st, w, [k + 1 ≤ x])
      | _, _ => none
    | _ => match sGet lv i with
      | some v => match sI v with
        | some x => some (sPut lv i (.inr (.int (x + Int32.ofInt c))), st, w, [])
        | none => none
      | none => none
  else none
def sAld (h : List Nat) (lv : sL) (st : List sV) (w : sW) : Option sR := match st, h with
  | .inl i :: .inr (.ref a) :: r, [q] => match w[q]? with
    | some (b, .inl (n, f)) => some (lv, .inl (f i) :: r, w, [b = a ∧ i < n ∧ n < 2147483648])
    | _ => none
  | _, _ => none
def sAst (h : List Nat) (lv : sL) (st : List sV) (w : sW) : Option sR := match st, h with
  | .inl v :: .inl i :: .inr (.ref a) :: r, [q] => match w[q]? with
    | some (b, .inl (n, f)) => some (lv, r, w.set q (b, .inl (n, va_up f i v)), [b = a ∧ i < n ∧ n < 2147483648])
    | _ => none
  | _, _ => none
def sLen (h : List Nat) (lv : sL) (st : List sV) (w : sW) : Option sR := match st, h with
  | .inr (.ref a) :: r, [q] => match w[q]? with
    | some (b, .inl (n, _)) => some (lv, .inl n :: r, w, [b = a])
    | _ => none
  | _, _ => none
/-- a field that the pool's entry 'idx' of the class 'own' names, as the field k of objects of the class ci -/
def kFld (own : String) (idx ci k : Nat) : Prop := ∃ (C : String) (T : u_T) (N : Nat) (ref : String), vwCl[ci]? = some (C, T, N) ∧ k < N ∧ (∀ x ∈ u_ws C T N, x ∈ kWS) ∧
  (Cond.fieldLink own idx ref (T k).2.1 (T k).2.2.1 ∈ kWS ∨ ∃ host, Cond.fieldLinkNest own idx ref (T k).2.1 (T k).2.2.1 host ∈ kNW) ∧ (ref = (T k).1 ∨ Cond.sameField ref (T k).1 (T k).2.1 (T k).2.2.1 ∈ kWS)
/-- .. and it may be written, in a constructor ('ini') also if it is final -/
def kPutW (ini : Bool) (own : String) (idx ci k : Nat) (ty : FieldType) : Prop := ∃ (C : String) (T : u_T) (N : Nat) (ref : String) (ty0 : Nat → FieldType), vwCl[ci]? = some (C, T, N) ∧ k < N ∧ (∀ x ∈ u_ws C T N, x ∈ kWS) ∧
  (∀ k, k < N → parseFieldDescriptor (T k).2.2.1 = some (ty0 k)) ∧ (∀ a, a < N → ∀ b, b < N → a ≠ b → (T a).2.1 ≠ (T b).2.1) ∧ parseFieldDescriptor (T k).2.2.1 = some ty ∧
  Cond.fieldLink own idx ref (T k).2.1 (T k).2.2.1 ∈ kWS ∧ (ref = (T k).1 ∨ Cond.sameField ref (T k).1 (T k).2.1 (T k).2.2.1 ∈ kWS) ∧ ((T k).2.2.2 = false ∨ ((T k).2.2.2 = true ∧ ini = true ∧ (T k).1 = own))
def sGetf (own : String) (h : List Nat) (lv : sL) (st : List sV) (w : sW) (idx : Nat) : Option sR := match st, h with
  | .inr (.ref a) :: r, [q, k] => match w[q]? with
    | some (b, .inr (ci, fs)) => match fs[k]? with
      | some v => some (lv, v :: r, w, [b = a ∧ kFld own idx ci k])
      | none => none
    | _ => none
  | _, _ => none
def sPutf (ini : Bool) (own : String) (h : List Nat) (lv : sL) (st : List sV) (w : sW) (idx : Nat) : Option sR := match st, h with
  | v :: .inr (.ref a) :: r, [q, k] => match w[q]? with
    | some (b, .inr (ci, fs)) => if k < fs.length then some (lv, r, w.set q (b, .inr (ci, fs.set k v)), [b = a ∧ ∃ ty, kPutW ini own idx ci k ty ∧ narrow ty (dV v) = dV v ∧ fits ty (dV v) = true]) else none
    | _ => none
  | _, _ => none
def sCat (v : sV) : Nat := (dV v).category
def sStep (ini : Bool) (own : String) (nL : Nat) (ins : Instr) (h : List Nat) (lv : sL) (st : List sV) (w : sW) : Option sR := match ins with
  | .iload i => sLdI lv st w i
  | .iload_n k => sLdI lv st w k.val
  | .aload i => sLdA lv st w i
  | .aload_n k => sLdA lv st w k.val
  | .lload i => sLdL lv st w i
  | .lload_n k => sLdL lv st w k.val
  | .istore i => sStI nL lv st w i
  | .istore_n k => sStI nL lv st w k.val
  | .astore i => sStA nL lv st w i
  | .astore_n k => sStA nL lv st w k.val
  | .lstore i => sStL nL lv st w i
  | .lstore_n k => sStL nL lv st w k.val
  | .iconst n => sCon 2147483648 Int32.ofInt lv st w n
  | .bipush n => sCon 128 (fun n => (Int8.ofInt n).toInt32) lv st w n
  | .sipush n => sCon 32768 (fun n => (Int16.ofInt n).toInt32) lv st w n
  | .ldc i => match h with
    | [v] => some (lv, .inl v :: st, w, [Cond.constant own i (nI v) ∈ kWS])
    | _ => none
  | .ldc2_w i => match h with
    | [v] => some (lv, .inr (.long (lN v)) :: st, w, [Cond.constantLong own i (lN v) ∈ kWS])
    | _ => none
  | .lconst n => some (lv, .inr (.long (Int64.ofNat n.val)) :: st, w, [])
  | .iadd => sBin (fun x y => x + y) (fun x y => x + y) lv st w
  | .imul => sBin (fun x y => x * y) (fun x y => x * y) lv st w
  | .iand => sBin (fun x y => x &&& y) (fun x y => x &&& y) lv st w
  | .ior => sBin (fun x y => x ||| y) (fun x y => x ||| y) lv st w
  | .ixor => sBin (fun x y => x ^^^ y) (fun x y => x ^^^ y) lv st w
  | .isub => sBinC (fun x y => x - y) (fun x y => y ≤ x) (fun x y => x - y) h lv st w
  | .ishl => match h with
    | [2] => sBinC (fun x k => x * 2 ^ k % 4294967296) (fun _ k => k < 32) (fun x y => x <<< (y &&& 31)) [] lv st w
    | _ => sBinC (fun x k => x * 2 ^ k) (fun _ k => k < 32) (fun x y => x <<< (y &&& 31)) h lv st w
  | .ishr => sBinC (fun x k => x / 2 ^ k) (fun x k => x < 2147483648 ∧ k < 32) (fun x y => x >>> (y &&& 31)) h lv st w
  | .iushr => sBinC (fun x k => x / 2 ^ k) (fun x k => x < 4294967296 ∧ k < 32) (fun x y => (x.toUInt32 >>> (y.toUInt32 &&& Int32.toUInt32 31)).toInt32) h lv st w
  | .idiv => match h with
    | [] => sBinC (fun x y => x / y) (fun x y => x < 2147483648 ∧ 0 < y ∧ y < 2147483648) (fun x y => x / y) [] lv st w
    | _ => none
  | .irem => match h with
    | [] => sBinC (fun x y => x % y) (fun x y => x < 2147483648 ∧ 0 < y ∧ y < 2147483648) (fun x y => x - x / y * y) [] lv st w
    | _ => none
  | .land => sLL (fun x y => x &&& y) lv st w
  | .lor => sLL (fun x y => x ||| y) lv st w
  | .lxor => sLL (fun x y => x ^^^ y) lv st w
  | .lshl => sLS (fun x y => x <<< (y.toInt64 &&& 63)) lv st w
  | .lshr => sLS (fun x y => x >>> (y.toInt64 &&& 63)) lv st w
  | .lushr => sLS (fun x y => (x.toUInt64 >>> (y.toInt64.toUInt64 &&& Int64.toUInt64 63)).toInt64) lv st w
  | .i2l => sI2L lv st w
  | .l2i => sL2I lv st w
  | .iinc i c => sInc nL h lv st w i c
  | .iaload => sAld h lv st w
  | .iastore => sAst h lv st w
  | .arraylength => sLen h lv st w
  | .getfield i => sGetf own h lv st w i
  | .putfield i => sPutf ini own h lv st w i
  | .dup => match st with
    | a :: r => if sCat a = 1 then some (lv, a :: a :: r, w, []) else none
    | _ => none
  | .pop => match st with
    | a :: r => if sCat a = 1 then some (lv, r, w, []) else none
    | _ => none
  | .dup_x1 => match st with
    | a :: b :: r => if sCat a = 1 ∧ sCat b = 1 then some (lv, a :: b :: a :: r, w, []) else none
    | _ => none
  | .dup_x2 => match st with
    | a :: b :: d :: r => if sCat a = 1 ∧ sCat b = 1 ∧ sCat d = 1 then some (lv, a :: b :: d :: a :: r, w, []) else none
    | _ => none
  | .dup2 => match st with
    | a :: b :: r => if sCat a = 1 ∧ sCat b = 1 then some (lv, a :: b :: a :: b :: r, w, []) else none
    | _ => none
  | _ => none
def sLen1 (ins : Instr) : Nat := match ins with
  | .iload _ | .aload _ | .lload _ | .istore _ | .astore _ | .lstore _ | .bipush _ | .ldc _ => 2
  | .sipush _ | .ldc2_w _ | .iinc _ _ | .getfield _ | .putfield _ => 3
  | _ => 1
def sAll : List Prop → Prop
  | [] => True
  | [q] => q
  | q :: r => q ∧ sAll r
/-- a run of instructions with their hints -/
abbrev sP : Type := List (Instr × List Nat)
def sDec (cc : ByteArray) : Nat → sP → Bool
  | _, [] => true
  | pc, (i, _) :: r => decide (decode cc pc = .ok (i, sLen1 i)) && sDec cc (pc + sLen1 i) r
def sEnd : Nat → sP → Nat
  | pc, [] => pc
  | pc, (i, _) :: r => sEnd (pc + sLen1 i) r
def sRun (ini : Bool) (own : String) (nL : Nat) : sP → sL → List sV → sW → Option sR
  | [], lv, st, w => some (lv, st, w, [])
  | (i, h) :: r, lv, st, w => match sStep ini own nL i h lv st w with
    | none => none
    | some (lv1, st1, w1, o1) => match sRun ini own nL r lv1 st1 w1 with
      | none => none
      | some (lv2, st2, w2, o2) => some (lv2, st2, w2, o1 ++ o2)
/-! numbers -/
theorem kn_ofInt (k : Nat) : Int32.ofInt (Int.ofNat k) = nI k := by
  apply Int32.toBitVec_inj.mp
  show BitVec.ofInt 32 (Int.ofNat k) = BitVec.ofNat 32 k
  exact BitVec.ofInt_natCast 32 k
theorem kn_b8 {k : Nat} (h : k < 128) : (Int8.ofInt (Int.ofNat k)).toInt32 = nI k := by
  apply Int32.toInt_inj.mp
  rw [Int8.toInt_toInt32, Int8.toInt_ofInt, nI_toInt (by omega)]
  exact Int.bmod_eq_of_le (by simp only [Int.ofNat_eq_natCast, Int8.size]; omega) (by simp only [Int.ofNat_eq_natCast, Int8.size]; omega)
theorem kn_s16 {k : Nat} (h : k < 32768) : (Int16.ofInt (Int.ofNat k)).toInt32 = nI k := by
  apply Int32.toInt_inj.mp
  rw [Int16.toInt_toInt32, Int16.toInt_ofInt, nI_toInt (by omega)]
  exact Int.bmod_eq_of_le (by simp only [Int.ofNat_eq_natCast, Int16.size]; omega) (by simp only [Int.ofNat_eq_natCast, Int16.size]; omega)
theorem kn_neg (j : Nat) : Int32.ofInt (Int.negSucc j) = -(nI (j + 1)) := by
  rw [show Int.negSucc j = -(Int.ofNat (j + 1)) from rfl, Int32.ofInt_neg, kn_ofInt]
theorem kn_and (a b : Nat) : nI a &&& nI b = nI (a &&& b) := by
  apply Int32.toBitVec_inj.1
  show BitVec.ofNat 32 a &&& BitVec.ofNat 32 b = BitVec.ofNat 32 (a &&& b)
  apply BitVec.eq_of_getLsbD_eq
  intro i hi
  simp [hi]
theorem kn_or (a b : Nat) : nI a ||| nI b = nI (a ||| b) := by
  apply Int32.toBitVec_inj.1
  show BitVec.ofNat 32 a ||| BitVec.ofNat 32 b = BitVec.ofNat 32 (a ||| b)
  apply BitVec.eq_of_getLsbD_eq
  intro i hi
  simp [hi]
theorem kn_xor (a b : Nat) : nI a ^^^ nI b = nI (a ^^^ b) := by
  apply Int32.toBitVec_inj.1
  show BitVec.ofNat 32 a ^^^ BitVec.ofNat 32 b = BitVec.ofNat 32 (a ^^^ b)
  apply BitVec.eq_of_getLsbD_eq
  intro i hi
  simp [hi]
theorem kn_mod (a : Nat) : nI (a % 4294967296) = nI a := by
  apply Int32.toBitVec_inj.1
  show BitVec.ofNat 32 (a % 4294967296) = BitVec.ofNat 32 a
  apply BitVec.eq_of_toNat_eq
  rw [BitVec.toNat_ofNat, BitVec.toNat_ofNat]
  exact Nat.mod_mod a _
theorem kn_s : ∀ k, k < 32 → ((nI k &&& 31).toBitVec.smod 32).toNat = k := by decide +kernel
theorem kn_u : ∀ k, k < 32 → (((nI k).toUInt32 &&& Int32.toUInt32 31).toBitVec % 32).toNat = k := by decide +kernel
theorem kn_shl (x : Nat) {k : Nat} (h : k < 32) : nI x <<< (nI k &&& 31) = nI (x * 2 ^ k) := by
  apply Int32.toBitVec_inj.mp
  apply BitVec.eq_of_toNat_eq
  rw [pk_shl _ _ k (kn_s k h)]
  show x % 2 ^ 32 * 2 ^ k % 2 ^ 32 = (x * 2 ^ k) % 2 ^ 32
  rw [Nat.mod_mul_mod]
theorem kn_shl2 (x : Nat) {k : Nat} (h : k < 32) : nI x <<< (nI k &&& 31) = nI (x * 2 ^ k % 4294967296) := by rw [kn_shl x h, kn_mod]
theorem kn_shr {x k : Nat} (hx : x < 2147483648) (h : k < 32) : nI x >>> (nI k &&& 31) = nI (x / 2 ^ k) := pk_shrN hx _ k (kn_s k h)
theorem kn_ushr {x k : Nat} (hx : x < 4294967296) (h : k < 32) : ((nI x).toUInt32 >>> ((nI k).toUInt32 &&& Int32.toUInt32 31)).toInt32 = nI (x / 2 ^ k) := pk_ushrN hx _ k (kn_u k h)
theorem kn_ne0 {y : Nat} (h0 : 0 < y) (h : y < 2147483648) : ¬ nI y = 0 := nI_ne0 h0 h
/-! soundness, step by step -/
section SK
variable {p : Program} {l : Launch} {e : Env} {R : Room} {s : State} {m : MethodId} {args : Array Value} {below : List Frame} {meth : Method} {c : Code} {D : va_G} {cA : ClassId} {A : Nat → Prop} {nL : Nat} {Q : State → Prop} {cc : ByteArray} {own : String} {ini : Bool}
variable {pc pc2 k n : Nat} {lv lv' : sL} {st st' : List sV} {w w' : sW} {ob : List Prop}
theorem kr_ldI {i : Nat} (row : ∀ (H : Heap) (locs : List Loc) (ls : Array Slot) (x : Int32) (rest : List Value), ls[i]? = some (.val (.int x)) → W p l e R s m args below meth c H locs k n Q (F0 m pc2 ls (.int x :: rest)) → W p l e R s m args below meth c H locs k n Q (F0 m pc ls rest))
    (hs : sLdI lv st w i = some (lv', st', w', ob)) (kk : kAt p l e R s m args below meth c D cA A nL Q pc2 lv' st' w' k n) : kAt p l e R s m args below meth c D cA A nL Q pc lv st w k n := by
  unfold sLdI at hs
  split at hs
  · rename_i x hg
    cases hs
    exact fun H locs ls hP hD hS hl => row H locs ls _ _ (sGet_has hl hg) (kk H locs ls hP hD hS hl)
  · rename_i x hg
    cases hs
    exact fun H locs ls hP hD hS hl => row H locs ls _ _ (sGet_has hl hg) (kk H locs ls hP hD hS hl)
  · cases hs
theorem kr_ldA {i : Nat} (row : ∀ (H : Heap) (locs : List Loc) (ls : Array Slot) (x : Nat) (rest : List Value), ls[i]? = some (.val (.ref x)) → W p l e R s m args below meth c H locs k n Q (F0 m pc2 ls (.ref x :: rest)) → W p l e R s m args below meth c H locs k n Q (F0 m pc ls rest))
    (hs : sLdA lv st w i = some (lv', st', w', ob)) (kk : kAt p l e R s m args below meth c D cA A nL Q pc2 lv' st' w' k n) : kAt p l e R s m args below meth c D cA A nL Q pc lv st w k n := by
  unfold sLdA at hs
  split at hs
  · rename_i x hg
    cases hs
    exact fun H locs ls hP hD hS hl => row H locs ls _ _ (sGet_has hl hg) (kk H locs ls hP hD hS hl)
  · cases hs
theorem kr_ldL {i : Nat} (row : ∀ (H : Heap) (locs : List Loc) (ls : Array Slot) (x : Int64) (rest : List Value), ls[i]? = some (.val (.long x)) → W p l e R s m args below meth c H locs k n Q (F0 m pc2 ls (.long x :: rest)) → W p l e R s m args below meth c H locs k n Q (F0 m pc ls rest))
    (hs : sLdL lv st w i = some (lv', st', w', ob)) (kk : kAt p l e R s m args below meth c D cA A nL Q pc2 lv' st' w' k n) : kAt p l e R s m args below meth c D cA A nL Q pc lv st w k n := by
  unfold sLdL at hs
  split at hs
  · rename_i x hg
    cases hs
    exact fun H locs ls hP hD hS hl => row H locs ls _ _ (sGet_has hl hg) (kk H locs ls hP hD hS hl)
  · cases hs
theorem kr_stI {i : Nat} (row : ∀ (H : Heap) (locs : List Loc) (ls : Array Slot) (x : Int32) (rest : List Value) (l0 l1 : List (Nat × Value)), lv_has ls nL l0 → i < nL → (i, Value.int x) :: l0.filter (fun q => !(q.1 == i) && !(q.1 + 1 == i && q.2.category == 2)) = l1 → (∀ ls' : Array Slot, lv_has ls' nL l1 → W p l e R s m args below meth c H locs k n Q (F0 m pc2 ls' rest)) → W p l e R s m args below meth c H locs k n Q (F0 m pc ls (.int x :: rest)))
    (hs : sStI nL lv st w i = some (lv', st', w', ob)) (kk : kAt p l e R s m args below meth c D cA A nL Q pc2 lv' st' w' k n) : kAt p l e R s m args below meth c D cA A nL Q pc lv st w k n := by
  unfold sStI at hs
  split at hs
  · rename_i x r
    split at hs
    · rename_i hi
      cases hs
      exact fun H locs ls hP hD hS hl => row H locs ls _ _ _ _ hl hi (sPut_eq (v := .inl x)) (fun ls' hl' => kk H locs ls' hP hD hS hl')
    · cases hs
  · rename_i x r
    split at hs
    · rename_i hi
      cases hs
      exact fun H locs ls hP hD hS hl => row H locs ls _ _ _ _ hl hi (sPut_eq (v := .inr (.int x))) (fun ls' hl' => kk H locs ls' hP hD hS hl')
    · cases hs
  · cases hs
theorem kr_stA {i : Nat} (row : ∀ (H : Heap) (locs : List Loc) (ls : Array Slot) (x : Nat) (rest : List Value) (l0 l1 : List (Nat × Value)), lv_has ls nL l0 → i < nL → (i, Value.ref x) :: l0.filter (fun q => !(q.1 == i) && !(q.1 + 1 == i && q.2.category == 2)) = l1 → (∀ ls' : Array Slot, lv_has ls' nL l1 → W p l e R s m args below meth c H locs k n Q (F0 m pc2 ls' rest)) → W p l e R s m args below meth c H locs k n Q (F0 m pc ls (.ref x :: rest)))
    (hs : sStA nL lv st w i = some (lv', st', w', ob)) (kk : kAt p l e R s m args below meth c D cA A nL Q pc2 lv' st' w' k n) : kAt p l e R s m args below meth c D cA A nL Q pc lv st w k n := by
  unfold sStA at hs
  split at hs
  · rename_i x r
    split at hs
    · rename_i hi
      cases hs
      exact fun H locs ls hP hD hS hl => row H locs ls _ _ _ _ hl hi (sPut_eq (v := .inr (.ref x))) (fun ls' hl' => kk H locs ls' hP hD hS hl')
    · cases hs
  · cases hs
theorem kr_stL {i : Nat} (row : ∀ (H : Heap) (locs : List Loc) (ls : Array Slot) (x : Int64) (rest : List Value) (l0 l1 : List (Nat × Value)), lv_has ls nL l0 → i + 1 < nL → (i, Value.long x) :: l0.filter (fun q => !(q.1 == i) && (!(q.1 == i + 1) && !(q.1 + 1 == i && q.2.category == 2))) = l1 → (∀ ls' : Array Slot, lv_has ls' nL l1 → W p l e R s m args below meth c H locs k n Q (F0 m pc2 ls' rest)) → W p l e R s m args below meth c H locs k n Q (F0 m pc ls (.long x :: rest)))
    (hs : sStL nL lv st w i = some (lv', st', w', ob)) (kk : kAt p l e R s m args below meth c D cA A nL Q pc2 lv' st' w' k n) : kAt p l e R s m args below meth c D cA A nL Q pc lv st w k n := by
  unfold sStL at hs
  split at hs
  · rename_i x r
    split at hs
    · rename_i hi
      cases hs
      exact fun H locs ls hP hD hS hl => row H locs ls _ _ _ _ hl hi (sPutL_eq (v := .inr (.long x))) (fun ls' hl' => kk H locs ls' hP hD hS hl')
    · cases hs
  · cases hs
theorem kr_con {b : Nat} {g : Int → Int32} {z : Int} (hg : ∀ k, k < b → g (.ofNat k) = nI k) (row : ∀ (H : Heap) (locs : List Loc) (ls : Array Slot) (x : Int32) (rest : List Value), g z = x → W p l e R s m args below meth c H locs k n Q (F0 m pc2 ls (.int x :: rest)) → W p l e R s m args below meth c H locs k n Q (F0 m pc ls rest))
    (hs : sCon b g lv st w z = some (lv', st', w', ob)) (kk : kAt p l e R s m args below meth c D cA A nL Q pc2 lv' st' w' k n) : kAt p l e R s m args below meth c D cA A nL Q pc lv st w k n := by
  unfold sCon at hs
  split at hs
  · rename_i j
    split at hs
    · rename_i hj
      cases hs
      exact fun H locs ls hP hD hS hl => row H locs ls _ _ (hg j hj) (kk H locs ls hP hD hS hl)
    · cases hs
  · rename_i j
    cases hs
    exact fun H locs ls hP hD hS hl => row H locs ls _ _ rfl (kk H locs ls hP hD hS hl)
theorem kr_bin {f : Nat → Nat → Nat} {g : Int32 → Int32 → Int32} (hfg : ∀ a b, g (nI a) (nI b) = nI (f a b)) (row : ∀ (H : Heap) (locs : List Loc) (ls : Array Slot) (x y : Int32) (rest : List Value), W p l e R s m args below meth c H locs k n Q (F0 m pc2 ls (.int (g x y) :: rest)) → W p l e R s m args below meth c H locs k n Q (F0 m pc ls (.int y :: .int x :: rest)))
    (hs : sBin f g lv st w = some (lv', st', w', ob)) (kk : kAt p l e R s m args below meth c D cA A nL Q pc2 lv' st' w' k n) : kAt p l e R s m args below meth c D cA A nL Q pc lv st w k n := by
  unfold sBin at hs
  split at hs
  · rename_i y x r
    cases hs
    intro H locs ls hP hD hS hl
    have h1 := kk H locs ls hP hD hS hl
    have h2 := row H locs ls (nI x) (nI y) (r.map dV)
    rw [hfg] at h2
    exact h2 h1
  · rename_i b a r _
    split at hs
    · rename_i y x hb ha
      cases hs
      intro H locs ls hP hD hS hl
      have h1 := row H locs ls x y (r.map dV) (kk H locs ls hP hD hS hl)
      rw [← sI_dV hb, ← sI_dV ha] at h1
      exact h1
    · cases hs
  · cases hs
theorem kr_binC {f : Nat → Nat → Nat} {ok : Nat → Nat → Prop} {g : Int32 → Int32 → Int32} {h : List Nat} (hfg : ∀ a b, ok a b → g (nI a) (nI b) = nI (f a b)) (row : ∀ (H : Heap) (locs : List Loc) (ls : Array Slot) (x y : Int32) (rest : List Value), W p l e R s m args below meth c H locs k n Q (F0 m pc2 ls (.int (g x y) :: rest)) → W p l e R s m args below meth c H locs k n Q (F0 m pc ls (.int y :: .int x :: rest)))
    (hs : sBinC f ok g h lv st w = some (lv', st', w', ob)) (ho : sAll ob) (kk : kAt p l e R s m args below meth c D cA A nL Q pc2 lv' st' w' k n) : kAt p l e R s m args below meth c D cA A nL Q pc lv st w k n := by
  unfold sBinC at hs
  split at hs
  · split at hs
    · rename_i y x r
      cases hs
      intro H locs ls hP hD hS hl
      have h1 := kk H locs ls hP hD hS hl
      have h2 := row H locs ls (nI x) (nI y) (r.map dV)
      rw [hfg x y ho] at h2
      exact h2 h1
    · cases hs
  · split at hs
    · rename_i b a r
      split at hs
      · rename_i y x hb ha
        cases hs
        intro H locs ls hP hD hS hl
        have h1 := row H locs ls x y (r.map dV) (kk H locs ls hP hD hS hl)
        rw [← sI_dV hb, ← sI_dV ha] at h1
        exact h1
      · cases hs
    · cases hs
/-- two numbers, no ints: for division -/
theorem kr_binD {f : Nat → Nat → Nat} {ok : Nat → Nat → Prop} {g : Int32 → Int32 → Int32} (hfg : ∀ a b, ok a b → g (nI a) (nI b) = nI (f a b)) (row : ∀ (H : Heap) (locs : List Loc) (ls : Array Slot) (x y : Nat) (rest : List Value), ok x y → W p l e R s m args below meth c H locs k n Q (F0 m pc2 ls (.int (g (nI x) (nI y)) :: rest)) → W p l e R s m args below meth c H locs k n Q (F0 m pc ls (.int (nI y) :: .int (nI x) :: rest)))
    (hs : sBinC f ok g [] lv st w = some (lv', st', w', ob)) (ho : sAll ob) (kk : kAt p l e R s m args below meth c D cA A nL Q pc2 lv' st' w' k n) : kAt p l e R s m args below meth c D cA A nL Q pc lv st w k n := by
  unfold sBinC at hs
  dsimp only at hs
  split at hs
  · rename_i y x r
    cases hs
    intro H locs ls hP hD hS hl
    have h1 := kk H locs ls hP hD hS hl
    have h2 := row H locs ls x y (r.map dV) ho
    rw [hfg x y ho] at h2
    exact h2 h1
  · cases hs
theorem kr_LL {g : Int64 → Int64 → Int64} (row : ∀ (H : Heap) (locs : List Loc) (ls : Array Slot) (x y : Int64) (rest : List Value), W p l e R s m args below meth c H locs k n Q (F0 m pc2 ls (.long (g x y) :: rest)) → W p l e R s m args below meth c H locs k n Q (F0 m pc ls (.long y :: .long x :: rest)))
    (hs : sLL g lv st w = some (lv', st', w', ob)) (kk : kAt p l e R s m args below meth c D cA A nL Q pc2 lv' st' w' k n) : kAt p l e R s m args below meth c D cA A nL Q pc lv st w k n := by
  unfold sLL at hs
  split at hs
  · cases hs
    exact fun H locs ls hP hD hS hl => row H locs ls _ _ _ (kk H locs ls hP hD hS hl)
  · cases hs
theorem kr_LS {g : Int64 → Int32 → Int64} (row : ∀ (H : Heap) (locs : List Loc) (ls : Array Slot) (x : Int64) (y : Int32) (rest : List Value), W p l e R s m args below meth c H locs k n Q (F0 m pc2 ls (.long (g x y) :: rest)) → W p l e R s m args below meth c H locs k n Q (F0 m pc ls (.int y :: .long x :: rest)))
    (hs : sLS g lv st w = some (lv', st', w', ob)) (kk : kAt p l e R s m args below meth c D cA A nL Q pc2 lv' st' w' k n) : kAt p l e R s m args below meth c D cA A nL Q pc lv st w k n := by
  unfold sLS at hs
  split at hs
  · rename_i b x r
    split at hs
    · rename_i y hb
      cases hs
      intro H locs ls hP hD hS hl
      have h1 := row H locs ls x y (r.map dV) (kk H locs ls hP hD hS hl)
      rw [← sI_dV hb] at h1
      exact h1
    · cases hs
  · cases hs
theorem kr_i2l (hx : p.tables.exec = Jvm.exec) (hb : c.code = cc) (hd : decode cc pc = .ok (.i2l, 1)) (hs : sI2L lv st w = some (lv', st', w', ob)) (kk : kAt p l e R s m args below meth c D cA A nL Q (pc + 1) lv' st' w' k n) : kAt p l e R s m args below meth c D cA A nL Q pc lv st w k n := by
  unfold sI2L at hs
  split at hs
  · rename_i a r
    split at hs
    · rename_i x ha
      cases hs
      intro H locs ls hP hD hS hl
      have h1 := lv_i2l (rest := r.map dV) hx hb hd rfl (kk H locs ls hP hD hS hl)
      rw [← sI_dV ha] at h1
      exact h1
    · cases hs
  · cases hs
theorem kr_l2i (hx : p.tables.exec = Jvm.exec) (hb : c.code = cc) (hd : decode cc pc = .ok (.l2i, 1)) (hs : sL2I lv st w = some (lv', st', w', ob)) (kk : kAt p l e R s m args below meth c D cA A nL Q (pc + 1) lv' st' w' k n) : kAt p l e R s m args below meth c D cA A nL Q pc lv st w k n := by
  unfold sL2I at hs
  split at hs
  · cases hs
    exact fun H locs ls hP hD hS hl => lv_l2i hx hb hd rfl (kk H locs ls hP hD hS hl)
  · cases hs
theorem sGet_mem {lv : sL} {i : Nat} {v : sV} (h : sGet lv i = some v) : ∃ q : Nat, (dL lv)[q]? = some (i, dV v) := by
  unfold sGet at h
  cases hf : lv.find? (fun q => q.1 == i) with
  | none => rw [hf] at h; cases h
  | some q =>
    rw [hf] at h
    cases h
    have h1 := List.mem_of_find?_eq_some hf
    have h2 := List.find?_some hf
    have h3 : q.1 = i := by simpa using h2
    obtain ⟨j, hj⟩ := List.getElem?_of_mem h1
    refine ⟨j, ?_⟩
    unfold dL
    rw [List.getElem?_map, hj, ← h3]
    rfl
theorem kr_inc (hx : p.tables.exec = Jvm.exec) (hb : c.code = cc) {i : Nat} {z : Int} {h : List Nat} (hd : decode cc pc = .ok (.iinc i z, 3)) (hs : sInc nL h lv st w i z = some (lv', st', w', ob)) (ho : sAll ob) (kk : kAt p l e R s m args below meth c D cA A nL Q (pc + 3) lv' st' w' k n) : kAt p l e R s m args below meth c D cA A nL Q pc lv st w k n := by
  unfold sInc at hs
  split at hs
  · rename_i hi
    split at hs
    · split at hs
      · rename_i x j hg
        cases hs
        obtain ⟨q, hq⟩ := sGet_mem hg
        exact fun H locs ls hP hD hS hl => lv_iinc (v := nI (x + j)) hx hb hd hl hq (by rw [kn_ofInt, nI_add]) hi (sPut_eq (v := .inl (x + j))) (fun ls' hl' => kk H locs ls' hP hD hS hl')
      · rename_i x j hg
        cases hs
        obtain ⟨q, hq⟩ := sGet_mem hg
        have hle : j + 1 ≤ x := ho
        exact fun H locs ls hP hD hS hl => lv_iinc (v := nI (x - (j + 1))) hx hb hd hl hq (by rw [← pk_sub hle, Int32.sub_eq_add_neg, kn_neg]) hi (sPut_eq (v := .inl (x - (j + 1)))) (fun ls' hl' => kk H locs ls' hP hD hS hl')
      · cases hs
    · split at hs
      · rename_i v hg
        split at hs
        · rename_i x hv
          cases hs
          obtain ⟨q, hq⟩ := sGet_mem hg
          rw [sI_dV hv] at hq
          exact fun H locs ls hP hD hS hl => lv_iinc hx hb hd hl hq rfl hi (sPut_eq (v := .inr (.int _))) (fun ls' hl' => kk H locs ls' hP hD hS hl')
        · cases hs
      · cases hs
  · cases hs
theorem kr_ald (hx : p.tables.exec = Jvm.exec) (hb : c.code = cc) (hG : kG D cA kNW s) {h : List Nat} (hd : decode cc pc = .ok (.iaload, 1)) (hs : sAld h lv st w = some (lv', st', w', ob)) (ho : sAll ob) (kk : kAt p l e R s m args below meth c D cA A nL Q (pc + 1) lv' st' w' k n) : kAt p l e R s m args below meth c D cA A nL Q pc lv st w k n := by
  unfold sAld at hs
  split at hs
  · rename_i i a r q
    split at hs
    · rename_i b sz f hw
      cases hs
      obtain ⟨rfl, hi, hn⟩ := ho
      intro H locs ls hP hD hS hl
      have h1 := kk H locs ls hP hD hS hl
      refine va_iald (f := fun j => nI (f j)) hx hb hG.1 hP q 0 (dW_at hw) rfl (vp_in_nI hi hn) hd ?_
      have hc : (nI i).toNatClampNeg = i := nI_clamp (by omega)
      rw [hc]
      exact h1
    · cases hs
  · cases hs
theorem kr_ast (hx : p.tables.exec = Jvm.exec) (hb : c.code = cc) (hG : kG D cA kNW s) {h : List Nat} (hd : decode cc pc = .ok (.iastore, 1)) (hs : sAst h lv st w = some (lv', st', w', ob)) (ho : sAll ob) (kk : kAt p l e R s m args below meth c D cA A nL Q (pc + 1) lv' st' w' k n) : kAt p l e R s m args below meth c D cA A nL Q pc lv st w k n := by
  unfold sAst at hs
  split at hs
  · rename_i v i a r q
    split at hs
    · rename_i b sz f hw
      cases hs
      obtain ⟨rfl, hi, hn⟩ := ho
      intro H locs ls hP hD hS hl
      have hc : (nI i).toNatClampNeg = i := nI_clamp (by omega)
      have hf : upd (fun j => nI (f j)) (nI i).toNatClampNeg (nI v) = fun j => nI (va_up f i v j) := by
        rw [hc]
        funext j
        by_cases hj : j = i
        · subst hj; simp [upd, va_up]
        · simp [upd, va_up, hj]
      refine va_iast (f := fun j => nI (f j)) (x := nI v) hx hb hG.1 hP hD hS q 0 (dW_at hw) rfl (vp_in_nI hi hn) hd ?_
      rw [hf]
      intro H1 locs1 hP1 hD1 hS1
      exact kk H1 locs1 ls (by rw [← dW_set]; exact hP1) (by rw [← dW_set]; exact hD1) hS1 hl
    · cases hs
  · cases hs
theorem kr_len (hx : p.tables.exec = Jvm.exec) (hb : c.code = cc) (hG : kG D cA kNW s) {h : List Nat} (hd : decode cc pc = .ok (.arraylength, 1)) (hs : sLen h lv st w = some (lv', st', w', ob)) (ho : sAll ob) (kk : kAt p l e R s m args below meth c D cA A nL Q (pc + 1) lv' st' w' k n) : kAt p l e R s m args below meth c D cA A nL Q pc lv st w k n := by
  unfold sLen at hs
  split at hs
  · rename_i a r q
    split at hs
    · rename_i b sz f hw
      cases hs
      have hba : b = a := ho
      subst hba
      exact fun H locs ls hP hD hS hl => va_alen (ty := .int) (x := (sz, .inl (fun j => nI (f j)))) hx hb hG.1 hP q 0 (dW_at hw) rfl rfl hd (kk H locs ls hP hD hS hl)
    · cases hs
  · cases hs
theorem kr_getf (hx : p.tables.exec = Jvm.exec) (hb : c.code = cc) (hown : s.vm.findClass own = some m.cls) (hts : ∀ w ∈ kWS, w.before args s = true) (hG : kG D cA kNW s) {h : List Nat} {idx : Nat} (hd : decode cc pc = .ok (.getfield idx, 3)) (hs : sGetf own h lv st w idx = some (lv', st', w', ob)) (ho : sAll ob) (kk : kAt p l e R s m args below meth c D cA A nL Q (pc + 3) lv' st' w' k n) : kAt p l e R s m args below meth c D cA A nL Q pc lv st w k n := by
  unfold sGetf at hs
  split at hs
  · rename_i a r q j
    split at hs
    · rename_i b ci fs hw
      split at hs
      · rename_i v hv
        cases hs
        obtain ⟨rfl, C, T, N, ref, hc, hk, hin, hlink, hsame⟩ := ho
        have hsm : ∀ x, s.fieldFound? (T j).1 (T j).2.1 (T j).2.2.1 = some x → s.fieldFound? ref (T j).2.1 (T j).2.2.1 = some x := by
          rcases hsame with h1 | h1
          · rw [h1]; exact fun _ h => h
          · exact fun x h => u_same (hts _ h1) x h
        have hv' : (fs.map dV)[j]? = some (dV v) := by rw [List.getElem?_map, hv]; rfl
        intro H locs ls hP hD hS hl
        rcases hlink with h1 | ⟨host, h1⟩
        · exact va_get hx hb hts hin hown hG.1 hP q (dW_at hw) hc j hk (hts _ h1) hsm hv' hd (kk H locs ls hP hD hS hl)
        · exact va_getN hx hb hts hin hown hG.1 hP q (dW_at hw) hc j hk (va_Nw.use rfl (hG.2 _ h1)) hsm hv' hd (kk H locs ls hP hD hS hl)
      · cases hs
    · cases hs
  · cases hs
theorem kr_putf (hx : p.tables.exec = Jvm.exec) (hb : c.code = cc) (hown : s.vm.findClass own = some m.cls) (hts : ∀ w ∈ kWS, w.before args s = true) (hG : kG D cA kNW s) (hini : ini = true → meth.name = "<init>") {h : List Nat} {idx : Nat} (hd : decode cc pc = .ok (.putfield idx, 3)) (hs : sPutf ini own h lv st w idx = some (lv', st', w', ob)) (ho : sAll ob) (kk : kAt p l e R s m args below meth c D cA A nL Q (pc + 3) lv' st' w' k n) : kAt p l e R s m args below meth c D cA A nL Q pc lv st w k n := by
  unfold sPutf at hs
  split at hs
  · rename_i v a r q j
    split at hs
    · rename_i b ci fs hw
      split at hs
      · rename_i hlen
        cases hs
        obtain ⟨rfl, ty, ⟨C, T, N, ref, ty0, hc, hk, hin, hty, hnm, hpd, hlink, hsame, hfin⟩, hnar, hfit⟩ := ho
        have hsm : ∀ x, s.fieldFound? (T j).1 (T j).2.1 (T j).2.2.1 = some x → s.fieldFound? ref (T j).2.1 (T j).2.2.1 = some x := by
          rcases hsame with h1 | h1
          · rw [h1]; exact fun _ h => h
          · exact fun x h => u_same (hts _ h1) x h
        have hset : ∀ b : Nat, (dW cA w).set q (b, .inr (ci, (fs.map dV).set j (dV v))) = dW cA (w.set q (b, .inr (ci, fs.set j v))) := by
          intro b
          rw [← dW_set]
          show _ = (dW cA w).set q (b, .inr (ci, (fs.set j v).map dV))
          rw [List.map_set]
        have hlen' : j < (fs.map dV).length := by rw [List.length_map]; exact hlen
        intro H locs ls hP hD hS hl
        rcases hfin with h1 | ⟨h1, h2, h3⟩
        · refine va_put hx hb hts hin ty0 hty hnm hown hG.1 hP hD hS q (dW_at hw) hc j hk (hts _ hlink) hsm h1 hpd hnar hfit hlen' hd ?_
          intro H1 locs1 hP1 hD1 hS1
          rw [hset] at hP1 hD1
          exact kk H1 locs1 ls hP1 hD1 hS1 hl
        · refine va_putF hx hb hts hin ty0 hty hnm hown hG.1 hP hD hS q (dW_at hw) hc j hk (hts _ hlink) hsm h1 (hini h2) h3 hpd hnar hfit hlen' hd ?_
          intro H1 locs1 hP1 hD1 hS1
          rw [hset] at hP1 hD1
          exact kk H1 locs1 ls hP1 hD1 hS1 hl
      · cases hs
    · cases hs
  · cases hs
/-- what holds all through a method's run -/
def kC (p : Program) (s : State) (m : MethodId) (args : Array Value) (meth : Method) (c : Code) (cc : ByteArray) (nL : Nat) (own : String) (ini : Bool) (D : va_G) (cA : ClassId) (A : Nat → Prop) : Prop :=
  CallFix p m c cc nL s args kWS own ∧ kG D cA kNW s ∧ (∀ q, s.heap.size ≤ q → A q) ∧ (ini = true → meth.name = "<init>")
theorem sAll_app {a b : List Prop} (h : sAll (a ++ b)) : sAll a ∧ sAll b := by
  have key : ∀ l : List Prop, sAll l ↔ ∀ q ∈ l, q := by
    intro l
    induction l with
    | nil => exact ⟨fun _ q hq => absurd hq List.not_mem_nil, fun _ => trivial⟩
    | cons x r ih =>
      cases r with
      | nil => exact ⟨fun h q hq => (List.mem_singleton.mp hq) ▸ h, fun h => h x List.mem_cons_self⟩
      | cons y r2 =>
        show (x ∧ sAll (y :: r2)) ↔ _
        rw [ih]
        exact ⟨fun h q hq => (List.mem_cons.mp hq).elim (fun e => e ▸ h.1) (fun m => h.2 q m), fun h => ⟨h x List.mem_cons_self, fun q hq => h q (List.mem_cons_of_mem _ hq)⟩⟩
  rw [key] at h
  exact ⟨(key a).mpr (fun q hq => h q (List.mem_append_left _ hq)), (key b).mpr (fun q hq => h q (List.mem_append_right _ hq))⟩
set_option maxHeartbeats 4000000 in
theorem sStep_ok (C0 : kC p s m args meth c cc nL own ini D cA A) {ins : Instr} {h : List Nat} (hs : sStep ini own nL ins h lv st w = some (lv', st', w', ob)) (ho : sAll ob) (hd : decode cc pc = .ok (ins, sLen1 ins)) (kk : kAt p l e R s m args below meth c D cA A nL Q (pc + sLen1 ins) lv' st' w' k n) : kAt p l e R s m args below meth c D cA A nL Q pc lv st w k n := by
  obtain ⟨⟨hx, hb, hml, hown, hts⟩, hG, hA, hini⟩ := C0
  cases ins with
  | iload i => exact kr_ldI (fun _ _ _ _ _ hl kk => lv_iload hx hb hd hl kk) hs kk
  | iload_n i => exact kr_ldI (fun _ _ _ _ _ hl kk => lv_iload_n hx hb hd rfl hl kk) hs kk
  | aload i => exact kr_ldA (fun _ _ _ _ _ hl kk => lv_aload hx hb hd hl kk) hs kk
  | aload_n i => exact kr_ldA (fun _ _ _ _ _ hl kk => lv_aload_n hx hb hd rfl hl kk) hs kk
  | lload i => exact kr_ldL (fun _ _ _ _ _ hl kk => lv_lload hx hb hd hl kk) hs kk
  | lload_n i => exact kr_ldL (fun _ _ _ _ _ hl kk => lv_lload_n hx hb hd rfl hl kk) hs kk
  | istore i => exact kr_stI (fun _ _ _ _ _ _ _ h hi he kk => lv_istore hx hb hd h hi he kk) hs kk
  | istore_n i => exact kr_stI (fun _ _ _ _ _ _ _ h hi he kk => lv_istore_n hx hb hd rfl h hi he kk) hs kk
  | astore i => exact kr_stA (fun _ _ _ _ _ _ _ h hi he kk => lv_astore hx hb hd h hi he kk) hs kk
  | astore_n i => exact kr_stA (fun _ _ _ _ _ _ _ h hi he kk => lv_astore_n hx hb hd rfl h hi he kk) hs kk
  | lstore i => exact kr_stL (fun _ _ _ _ _ _ _ h hi he kk => lv_lstore hx hb hd h hi he kk) hs kk
  | lstore_n i => exact kr_stL (fun _ _ _ _ _ _ _ h hi he kk => lv_lstore_n hx hb hd rfl h hi he kk) hs kk
  | iconst z => exact kr_con (fun k _ => kn_ofInt k) (fun _ _ _ _ _ he kk => lv_iconst hx hb hd he kk) hs kk
  | bipush z => exact kr_con (g := fun n => (Int8.ofInt n).toInt32) (z := z) (fun k hk => kn_b8 hk) (fun _ _ _ _ _ he kk => lv_bipush hx hb hd he kk) hs kk
  | sipush z => exact kr_con (g := fun n => (Int16.ofInt n).toInt32) (z := z) (fun k hk => kn_s16 hk) (fun _ _ _ _ _ he kk => lv_sipush hx hb hd he kk) hs kk
  | ldc i =>
    simp only [sStep] at hs
    split at hs
    · cases hs
      exact fun H locs ls hP hD hS hl => lv_ldc hx hb hown (hts _ ho) hd (kk H locs ls hP hD hS hl)
    · cases hs
  | ldc2_w i =>
    simp only [sStep] at hs
    split at hs
    · cases hs
      exact fun H locs ls hP hD hS hl => lv_ldc2 hx hb hown (hts _ ho) hd (kk H locs ls hP hD hS hl)
    · cases hs
  | lconst i =>
    cases hs
    exact fun H locs ls hP hD hS hl => lv_lconst hx hb hd rfl (kk H locs ls hP hD hS hl)
  | iadd => exact kr_bin (f := fun x y => x + y) (fun a b => nI_add a b) (fun _ _ _ _ _ _ kk => lv_iadd hx hb hd kk) hs kk
  | imul => exact kr_bin (f := fun x y => x * y) (fun a b => pk_mul a b) (fun _ _ _ _ _ _ kk => lv_imul hx hb hd kk) hs kk
  | iand => exact kr_bin (f := fun x y => x &&& y) (fun a b => kn_and a b) (fun _ _ _ _ _ _ kk => lv_iand hx hb hd kk) hs kk
  | ior => exact kr_bin (f := fun x y => x ||| y) (fun a b => kn_or a b) (fun _ _ _ _ _ _ kk => lv_ior hx hb hd kk) hs kk
  | ixor => exact kr_bin (f := fun x y => x ^^^ y) (fun a b => kn_xor a b) (fun _ _ _ _ _ _ kk => lv_ixor hx hb hd kk) hs kk
  | isub => exact kr_binC (f := fun x y => x - y) (ok := fun x y => y ≤ x) (fun a b h => pk_sub h) (fun _ _ _ _ _ _ kk => lv_isub hx hb hd kk) hs ho kk
  | ishl =>
    simp only [sStep] at hs
    split at hs
    · exact kr_binC (fun a b h => kn_shl2 a h) (fun _ _ _ _ _ _ kk => lv_ishl hx hb hd kk) hs ho kk
    · exact kr_binC (fun a b h => kn_shl a h) (fun _ _ _ _ _ _ kk => lv_ishl hx hb hd kk) hs ho kk
  | ishr => exact kr_binC (f := fun x k => x / 2 ^ k) (ok := fun x k => x < 2147483648 ∧ k < 32) (fun a b h => kn_shr h.1 h.2) (fun _ _ _ _ _ _ kk => lv_ishr hx hb hd kk) hs ho kk
  | iushr => exact kr_binC (f := fun x k => x / 2 ^ k) (ok := fun x k => x < 4294967296 ∧ k < 32) (fun a b h => kn_ushr h.1 h.2) (fun _ _ _ _ _ _ kk => lv_iushr hx hb hd rfl kk) hs ho kk
  | idiv =>
    simp only [sStep] at hs
    split at hs
    · exact kr_binD (fun a b h => pk_div h.1 h.2.1 h.2.2) (fun _ _ _ _ _ _ h kk => lv_idiv hx hb hd (kn_ne0 h.2.1 h.2.2) kk) hs ho kk
    · cases hs
  | irem =>
    simp only [sStep] at hs
    split at hs
    · exact kr_binD (fun a b h => pk_rem h.1 h.2.1 h.2.2) (fun _ _ _ _ _ _ h kk => lv_irem hx hb hd (kn_ne0 h.2.1 h.2.2) kk) hs ho kk
    · cases hs
  | land => exact kr_LL (fun _ _ _ _ _ _ kk => lv_land hx hb hd kk) hs kk
  | lor => exact kr_LL (fun _ _ _ _ _ _ kk => lv_lor hx hb hd kk) hs kk
  | lxor => exact kr_LL (fun _ _ _ _ _ _ kk => lv_lxor hx hb hd kk) hs kk
  | lshl => exact kr_LS (fun _ _ _ _ _ _ kk => lv_lshl hx hb hd rfl kk) hs kk
  | lshr => exact kr_LS (fun _ _ _ _ _ _ kk => lv_lshr hx hb hd rfl kk) hs kk
  | lushr => exact kr_LS (fun _ _ _ _ _ _ kk => lv_lushr hx hb hd rfl kk) hs kk
  | i2l => exact kr_i2l hx hb hd hs kk
  | l2i => exact kr_l2i hx hb hd hs kk
  | iinc i z => exact kr_inc hx hb hd hs ho kk
  | iaload => exact kr_ald hx hb hG hd hs ho kk
  | iastore => exact kr_ast hx hb hG hd hs ho kk
  | arraylength => exact kr_len hx hb hG hd hs ho kk
  | getfield i => exact kr_getf hx hb hown hts hG hd hs ho kk
  | putfield i => exact kr_putf hx hb hown hts hG hini hd hs ho kk
  | dup =>
    simp only [sStep] at hs
    split at hs
    · split at hs
      · rename_i h1
        cases hs
        exact fun H locs ls hP hD hS hl => lv_dup hx hb hd h1 (kk H locs ls hP hD hS hl)
      · cases hs
    · cases hs
  | pop =>
    simp only [sStep] at hs
    split at hs
    · split at hs
      · rename_i h1
        cases hs
        exact fun H locs ls hP hD hS hl => lv_pop hx hb hd h1 (kk H locs ls hP hD hS hl)
      · cases hs
    · cases hs
  | dup_x1 =>
    simp only [sStep] at hs
    split at hs
    · split at hs
      · rename_i h1
        cases hs
        exact fun H locs ls hP hD hS hl => lv_dup_x1 hx hb hd h1.1 h1.2 (kk H locs ls hP hD hS hl)
      · cases hs
    · cases hs
  | dup_x2 =>
    simp only [sStep] at hs
    split at hs
    · split at hs
      · rename_i h1
        cases hs
        exact fun H locs ls hP hD hS hl => lv_dup_x2 hx hb hd h1.1 h1.2.1 h1.2.2 (kk H locs ls hP hD hS hl)
      · cases hs
    · cases hs
  | dup2 =>
    simp only [sStep] at hs
    split at hs
    · split at hs
      · rename_i h1
        cases hs
        exact fun H locs ls hP hD hS hl => lv_dup2_11 hx hb hd h1.1 h1.2 (kk H locs ls hP hD hS hl)
      · cases hs
    · cases hs
  | _ => exact absurd (show (none : Option sR) = some _ from hs) (fun h => by cases h)
theorem sRun_ok (C0 : kC p s m args meth c cc nL own ini D cA A) : ∀ (prog : sP) (pc : Nat) (lv : sL) (st : List sV) (w : sW) (lv' : sL) (st' : List sV) (w' : sW) (ob : List Prop), sDec cc pc prog = true → sRun ini own nL prog lv st w = some (lv', st', w', ob) → sAll ob → kAt p l e R s m args below meth c D cA A nL Q (sEnd pc prog) lv' st' w' k n → kAt p l e R s m args below meth c D cA A nL Q pc lv st w k n
  | [], pc, lv, st, w, lv', st', w', ob, _, hr, _, kk => by
    cases hr
    exact kk
  | (i, h) :: r, pc, lv, st, w, lv', st', w', ob, hd, hr, ho, kk => by
    unfold sRun at hr
    split at hr
    · cases hr
    · rename_i lv1 st1 w1 o1 h1
      split at hr
      · cases hr
      · rename_i lv2 st2 w2 o2 h2
        cases hr
        obtain ⟨ho1, ho2⟩ := sAll_app ho
        unfold sDec at hd
        rw [Bool.and_eq_true] at hd
        exact sStep_ok C0 h1 ho1 (of_decide_eq_true hd.1) (sRun_ok C0 r _ _ _ _ _ _ _ _ hd.2 h2 ho2 kk)
end SK
/-! G is 'at pc, with these locals, stack, world, cells and slots: it comes to the end'; kR says which machine it is of; goals speak of G alone -/
abbrev kT : Type := Nat → sL → List sV → sW → Nat → Nat → Prop
def kR (l : Launch) (cc : ByteArray) (nL : Nat) (own : String) (ini : Bool) (R : Room) (Fin : Nat → List sV → sW → Nat → Nat → Prop) (G : kT) : Prop :=
  ∃ (p : Program) (e : Env) (s : State) (m : MethodId) (args : Array Value) (below : List Frame) (meth : Method) (c : Code) (D : va_G) (cA : ClassId) (A : Nat → Prop) (Q : State → Prop),
    kC p s m args meth c cc nL own ini D cA A ∧ G = kAt p l e R s m args below meth c D cA A nL Q ∧ ∀ pc lv st w k n, Fin pc st w k n → G pc lv st w k n
def sCmp (cd : Jvm.ClassFile.Cond) (x y : Int32) : Prop := match cd with
  | .eq => x = y
  | .ne => ¬ x = y
  | .lt => x < y
  | .ge => y ≤ x
  | .gt => y < x
  | .le => x ≤ y
def sCmpN (cd : Jvm.ClassFile.Cond) (x y : Nat) : Prop := match cd with
  | .eq => x = y
  | .ne => ¬ x = y
  | .lt => x < y
  | .ge => y ≤ x
  | .gt => y < x
  | .le => x ≤ y
theorem sCmp_nI {cd : Jvm.ClassFile.Cond} {x y : Nat} (hx : x < 2147483648) (hy : y < 2147483648) : sCmp cd (nI x) (nI y) ↔ sCmpN cd x y := by
  cases cd
  · exact nI_eq hx hy
  · exact not_congr (nI_eq hx hy)
  · exact nI_ltI hx hy
  · exact nI_leI hy hx
  · exact nI_ltI hy hx
  · exact nI_leI hx hy
section KR
variable {l : Launch} {cc : ByteArray} {nL : Nat} {own : String} {ini : Bool} {R : Room} {Fin : Nat → List sV → sW → Nat → Nat → Prop} {G : kT}
variable {pc pc2 k n : Nat} {lv lv' : sL} {st st' : List sV} {w w' : sW} {ob : List Prop}
theorem kR.run (h : kR l cc nL own ini R Fin G) (prog : sP) (hd : sDec cc pc prog = true) (he : sEnd pc prog = pc2) (hr : sRun ini own nL prog lv st w = some (lv', st', w', ob)) (ho : sAll ob) (kk : G pc2 lv' st' w' k n) : G pc lv st w k n := by
  obtain ⟨p, e, s, m, args, below, meth, c, D, cA, A, Q, C0, rfl, -⟩ := h
  subst he
  exact sRun_ok C0 prog pc lv st w lv' st' w' ob hd hr ho kk
theorem kR.fin (h : kR l cc nL own ini R Fin G) (hf : Fin pc st w k n) : G pc lv st w k n := by
  obtain ⟨p, e, s, m, args, below, meth, c, D, cA, A, Q, C0, rfl, hr⟩ := h
  exact hr pc lv st w k n hf
theorem kR.goto (h : kR l cc nL own ini R Fin G) {off : Int} (hd : decode cc pc = .ok (.goto off, 3)) (ht : (pc : Int) + off = (pc2 : Int)) (kk : G pc2 lv st w k n) : G pc lv st w k n := by
  obtain ⟨p, e, s, m, args, below, meth, c, D, cA, A, Q, ⟨⟨hx, hb, -⟩, -⟩, rfl, -⟩ := h
  exact fun H locs ls hP hD hS hl => lv_goto hx hb hd ht (kk H locs ls hP hD hS hl)
theorem kR.icmp (h : kR l cc nL own ini R Fin G) {cd : Jvm.ClassFile.Cond} {off : Int} {a b : sV} {x y : Int32} (hd : decode cc pc = .ok (.if_icmp cd off, 3)) (ht : (pc : Int) + off = (pc2 : Int)) (ha : sI a = some x) (hb : sI b = some y) (kt : sCmp cd x y → G pc2 lv st w k n) (kf : ¬ sCmp cd x y → G (pc + 3) lv st w k n) : G pc lv (b :: a :: st) w k n := by
  obtain ⟨p, e, s, m, args, below, meth, c, D, cA, A, Q, ⟨⟨hx, hbb, -⟩, -⟩, rfl, -⟩ := h
  intro H locs ls hP hD hS hl
  show W p l e R s m args below meth c H locs k n Q (F0 m pc ls (dV b :: dV a :: st.map dV))
  rw [sI_dV ha, sI_dV hb]
  cases cd
  · exact lv_icmp_eq hx hbb hd ht (fun q => kt q H locs ls hP hD hS hl) (fun q => kf q H locs ls hP hD hS hl)
  · exact lv_icmp_ne hx hbb hd ht (fun q => kt q H locs ls hP hD hS hl) (fun q => kf (fun z => z q) H locs ls hP hD hS hl)
  · exact lv_icmp_lt hx hbb hd ht (fun q => kt q H locs ls hP hD hS hl) (fun q => kf q H locs ls hP hD hS hl)
  · exact lv_icmp_ge hx hbb hd ht (fun q => kt q H locs ls hP hD hS hl) (fun q => kf q H locs ls hP hD hS hl)
  · exact lv_icmp_gt hx hbb hd ht (fun q => kt q H locs ls hP hD hS hl) (fun q => kf q H locs ls hP hD hS hl)
  · exact lv_icmp_le hx hbb hd ht (fun q => kt q H locs ls hP hD hS hl) (fun q => kf q H locs ls hP hD hS hl)
theorem kR.icmpN (h : kR l cc nL own ini R Fin G) {cd : Jvm.ClassFile.Cond} {off : Int} {x y : Nat} (hd : decode cc pc = .ok (.if_icmp cd off, 3)) (ht : (pc : Int) + off = (pc2 : Int)) (hx : x < 2147483648) (hy : y < 2147483648) (kt : sCmpN cd x y → G pc2 lv st w k n) (kf : ¬ sCmpN cd x y → G (pc + 3) lv st w k n) : G pc lv (.inl y :: .inl x :: st) w k n :=
  h.icmp (a := .inl x) (b := .inl y) hd ht rfl rfl (fun q => kt ((sCmp_nI hx hy).mp q)) (fun q => kf (fun z => q ((sCmp_nI hx hy).mpr z)))
theorem kR.ifc (h : kR l cc nL own ini R Fin G) {cd : Jvm.ClassFile.Cond} {off : Int} {a : sV} {x : Int32} (hd : decode cc pc = .ok (.ifCond cd off, 3)) (ht : (pc : Int) + off = (pc2 : Int)) (ha : sI a = some x) (kt : sCmp cd x 0 → G pc2 lv st w k n) (kf : ¬ sCmp cd x 0 → G (pc + 3) lv st w k n) : G pc lv (a :: st) w k n := by
  obtain ⟨p, e, s, m, args, below, meth, c, D, cA, A, Q, ⟨⟨hx, hbb, -⟩, -⟩, rfl, -⟩ := h
  intro H locs ls hP hD hS hl
  show W p l e R s m args below meth c H locs k n Q (F0 m pc ls (dV a :: st.map dV))
  rw [sI_dV ha]
  cases cd
  · exact lv_if_eq hx hbb hd ht (fun q => kt q H locs ls hP hD hS hl) (fun q => kf q H locs ls hP hD hS hl)
  · exact lv_if_ne hx hbb hd ht (fun q => kt q H locs ls hP hD hS hl) (fun q => kf (fun z => z q) H locs ls hP hD hS hl)
  · exact lv_if_lt hx hbb hd ht (fun q => kt q H locs ls hP hD hS hl) (fun q => kf q H locs ls hP hD hS hl)
  · exact lv_if_ge hx hbb hd ht (fun q => kt q H locs ls hP hD hS hl) (fun q => kf q H locs ls hP hD hS hl)
  · exact lv_if_gt hx hbb hd ht (fun q => kt q H locs ls hP hD hS hl) (fun q => kf q H locs ls hP hD hS hl)
  · exact lv_if_le hx hbb hd ht (fun q => kt q H locs ls hP hD hS hl) (fun q => kf q H locs ls hP hD hS hl)
theorem kR.ifcN (h : kR l cc nL own ini R Fin G) {cd : Jvm.ClassFile.Cond} {off : Int} {x : Nat} (hd : decode cc pc = .ok (.ifCond cd off, 3)) (ht : (pc : Int) + off = (pc2 : Int)) (hx : x < 2147483648) (kt : sCmpN cd x 0 → G pc2 lv st w k n) (kf : ¬ sCmpN cd x 0 → G (pc + 3) lv st w k n) : G pc lv (.inl x :: st) w k n :=
  h.ifc (a := .inl x) hd ht rfl (fun q => kt ((sCmp_nI (y := 0) hx (by decide)).mp q)) (fun q => kf (fun z => q ((sCmp_nI (y := 0) hx (by decide)).mpr z)))
/-- other words for the same values -/
theorem kR.cast (h : kR l cc nL own ini R Fin G) (h1 : dL lv = dL lv') (h2 : st.map dV = st'.map dV) (h3 : w = w') (kk : G pc lv' st' w' k n) : G pc lv st w k n := by
  obtain ⟨p, e, s, m, args, below, meth, c, D, cA, A, Q, C0, rfl, -⟩ := h
  subst h3
  intro H locs ls hP hD hS hl
  rw [h1] at hl
  rw [h2]
  exact kk H locs ls hP hD hS hl
/-- fewer locals; fewer cells, in another order -/
theorem kR.sub (h : kR l cc nL own ini R Fin G) (is : List Nat) (hn : va_nd is = true) (hs : is.map (fun i => w[i]?) = w'.map some) (kk : G pc lv st w' k n) : G pc lv st w k n := by
  obtain ⟨p, e, s, m, args, below, meth, c, D, cA, A, Q, C0, rfl, -⟩ := h
  intro H locs ls hP hD hS hl
  have h1 : is.map (fun i => (dW cA w)[i]?) = (dW cA w').map some := by
    have e1 : (fun i : Nat => (dW cA w)[i]?) = (fun i : Nat => (w[i]?).map (fun q : Nat × sE => (q.1, dE cA q.2))) := by
      funext i
      unfold dW
      rw [List.getElem?_map]
    rw [e1]
    have e2 : is.map (fun i : Nat => (w[i]?).map (fun q : Nat × sE => (q.1, dE cA q.2))) = (is.map (fun i : Nat => w[i]?)).map (fun o => o.map (fun q : Nat × sE => (q.1, dE cA q.2))) := by rw [List.map_map]; rfl
    rw [e2, hs]
    unfold dW
    rw [List.map_map, List.map_map]
    rfl
  have h2 : is.filterMap (fun i => (dW cA w)[i]?) = dW cA w' := by
    have e3 : is.filterMap (fun i => (dW cA w)[i]?) = (is.map (fun i => (dW cA w)[i]?)).filterMap id := by rw [List.filterMap_map]; rfl
    rw [e3, h1, List.filterMap_map]
    exact List.filterMap_some
  exact kk H locs ls (hP.sub is h2) (hD.sub is hn h1) hS hl
theorem kR.subL (h : kR l cc nL own ini R Fin G) (ks : List Nat) (hs : ks.filterMap (fun i => lv[i]?) = lv') (kk : G pc lv' st w k n) : G pc lv st w k n := by
  obtain ⟨p, e, s, m, args, below, meth, c, D, cA, A, Q, C0, rfl, -⟩ := h
  intro H locs ls hP hD hS hl
  refine kk H locs ls hP hD hS ⟨hl.1, hl.2.1, fun q hq => ?_⟩
  subst hs
  obtain ⟨x, hx, rfl⟩ := List.mem_map.mp hq
  obtain ⟨i, -, hi⟩ := List.mem_filterMap.mp hx
  exact hl.2.2 _ (List.mem_map.mpr ⟨x, List.mem_of_getElem? hi, rfl⟩)
end KR
/-! contracts -/
def kQ (D : va_G) (cA : ClassId) (w : sW) (sz : Nat) (Post : Option sV → sW → Prop) : Array Value → State → Outcome → State → Prop := fun _ st oc t =>
  (∃ (r : Option sV) (w' : sW), oc = .returned (r.map dV) ∧ Post r w' ∧ va_P D vwCl (dW cA w') t.heap ∧ va_D (va_A (dW cA w) sz) (dW cA w')) ∧ va_F (va_A (dW cA w) sz) st t
def kPre (D : va_G) (cA : ClassId) (av : List sV) (w : sW) (sz : Nat) : Array Value → State → Prop := va_Pc (av.map dV) (fun U => U.heap.size = sz ∧ va_P D vwCl (dW cA w) U.heap ∧ kG D cA kNW U ∧ va_D (fun _ => True) (dW cA w))
def kMet (l : Launch) (y : MethodName) (cc : ByteArray) (nL : Nat) (ret : Option FieldType) (rm : Room) (av : List sV) (w : sW) (Post : Option sV → sW → Prop) : Prop :=
  ∀ (D : va_G) (cA : ClassId) (sz : Nat), Met l y (Cond.code y cc nL ret :: kWS) rm (kPre D cA av w sz) (kQ D cA w sz Post) rm.cells rm.slots (va_A (dW cA w) sz)
def kRet (cc : ByteArray) (ret : Option FieldType) (pc : Nat) (st : List sV) (r : Option sV) : Prop := st = r.toList ∧
  ((ret = none ∧ r = none ∧ decode cc pc = .ok (.return_, 1)) ∨ (∃ v x ty, ret = some ty ∧ r = some v ∧ sI v = some x ∧ narrow ty (.int x) = .int x ∧ decode cc pc = .ok (.ireturn, 1)) ∨
   (∃ x, ret = some .long ∧ r = some (.inr (.long x)) ∧ decode cc pc = .ok (.lreturn, 1)) ∨ (∃ a ty, ret = some ty ∧ ((∃ n, ty = .object n) ∨ ∃ t, ty = .array t) ∧ r = some (.inr (.ref a)) ∧ decode cc pc = .ok (.areturn, 1)))
def kFin (cc : ByteArray) (ret : Option FieldType) (rm : Room) (Post : Option sV → sW → Prop) (pc : Nat) (st : List sV) (w : sW) (k n : Nat) : Prop := ∃ r, kRet cc ret pc st r ∧ Post r w ∧ k ≤ rm.cells ∧ n ≤ rm.slots
set_option maxHeartbeats 1000000 in
theorem kmet_of {l : Launch} {y : MethodName} {cc : ByteArray} {nL : Nat} {ret : Option FieldType} {rm : Room} {av : List sV} {w : sW} {Post : Option sV → sW → Prop} {lv0 : sL} (ini : Bool) (hini : ini = true → y.name = "<init>") (hpl : plainName y.cls = true) (hlen : (lg_sl (av.map dV)).length ≤ nL) (hlv : lv_args 0 (av.map dV) = dL lv0)
    (body : ∀ G, kR l cc nL y.cls ini rm (kFin cc ret rm Post) G → G 0 lv0 [] w 0 0) : kMet l y cc nL ret rm av w Post := by
  intro D cA sz
  refine Met.ofW (cc := cc) (maxL := nL) (ret := ret) hpl rfl ?_
  intro p e s m args below meth c s₁ B hml hv
  obtain ⟨rfl, hsz, hP, hG, hD0⟩ := hv
  have hts := atoms_spec (ws := Cond.code y cc nL ret :: kWS) B.pre
  have hown : s.vm.findClass y.cls = some m.cls := findClass_of_methodNamed B.named
  have hlocks := B.notSynchronized
  have hr := B.returns
  subst hsz
  have hD := hD0.self (sz := s.heap.size)
  have hl := lv_entry (av.map dV) (n := nL) hlen
  rw [lg_entry_eq]
  rw [hlv] at hl
  refine body (kAt p l e rm s m (av.map dV).toArray below meth c D cA (va_A (dW cA w) s.heap.size) nL (MQ below (kQ D cA w s.heap.size Post) (av.map dV).toArray s rm.cells rm.slots (va_A (dW cA w) s.heap.size))) ⟨p, e, s, m, (av.map dV).toArray, below, meth, c, D, cA, va_A (dW cA w) s.heap.size, _, ⟨⟨B.exec, B.bytes, hml, hown, fun w h => hts w (List.mem_cons_of_mem _ h)⟩, hG, fun q h => Or.inr h, fun h => (name_of_methodNamed B.named B.method).1.trans (hini h)⟩, rfl, ?_⟩ s.heap [] _ hP hD va_S.rf hl
  intro pc lv st w' k n hf H locs ls hP' hD' hS' hl'
  obtain ⟨r, ⟨rfl, hret⟩, hpost, hk, hn⟩ := hf
  refine W.widen hk hn ?_
  have hq : ∀ t : State, t.heap = H → s.WarmedH t.vm → kQ D cA w s.heap.size Post (av.map dV).toArray s (.returned (r.map dV)) t := fun t ht _ => ⟨⟨r, w', rfl, hpost, by rw [ht]; exact hP', hD'⟩, hS'.F ht⟩
  rcases hret with ⟨rfl, rfl, hd⟩ | ⟨v, x, ty, rfl, rfl, hv, hnar, hd⟩ | ⟨x, rfl, rfl, hd⟩ | ⟨a, ty, rfl, hty, rfl, hd⟩
  · exact W.vret B.exec B.bytes hr hq hS'.2.2 hd
  · show W p l e rm s m _ below meth c H locs rm.cells rm.slots _ (F0 m pc ls [dV v])
    have hq2 := hq
    simp only [Option.map_some] at hq2
    rw [sI_dV hv] at hq2 ⊢
    exact W.zret B.exec B.bytes hr hnar hq2 hS'.2.2 hd
  · exact W.lret B.exec B.bytes hr hq hS'.2.2 hd
  · exact W.aret B.exec B.bytes hr hty (Or.inr ⟨a, rfl⟩) hq hS'.2.2 hd
