/-! the cipher of a block, in bytes; a block is a function of the place -/
def by8 (n : Nat) (f : Nat → Nat) : Prop := ∀ j, j < n → f j < 256
def pw : Nat → Nat
  | 0 => 1
  | n + 1 => xt (pw n)
theorem pw_lt : ∀ n, pw n < 256
  | 0 => by decide
  | n + 1 => xt_lt _ (pw_lt n)
/-- the bytes of the round keys out of the key's 4 w bytes -/
def KX (w : Nat) (f : Nat → Nat) (i : Nat) : Nat :=
  if h : i < 4 * w ∨ w = 0 then f i else
    KX w f (4 * (i / 4 - w) + i % 4) ^^^
      (if i / 4 % w = 0 then (if i % 4 = 0 then SB (KX w f (4 * (i / 4 - 1) + (i % 4 + 1) % 4)) ^^^ pw (i / 4 / w - 1) else SB (KX w f (4 * (i / 4 - 1) + (i % 4 + 1) % 4)))
       else if w = 8 ∧ i / 4 % 8 = 4 then SB (KX w f (4 * (i / 4 - 1) + i % 4)) else KX w f (4 * (i / 4 - 1) + i % 4))
termination_by i
decreasing_by all_goals omega
theorem KX_lo {w i : Nat} {f : Nat → Nat} (h : i < 4 * w) : KX w f i = f i := by
  rw [KX, dif_pos (Or.inl h)]
theorem KX_hi {w i : Nat} {f : Nat → Nat} (hw : 0 < w) (h : 4 * w ≤ i) : KX w f i = KX w f (4 * (i / 4 - w) + i % 4) ^^^
      (if i / 4 % w = 0 then (if i % 4 = 0 then SB (KX w f (4 * (i / 4 - 1) + (i % 4 + 1) % 4)) ^^^ pw (i / 4 / w - 1) else SB (KX w f (4 * (i / 4 - 1) + (i % 4 + 1) % 4)))
       else if w = 8 ∧ i / 4 % 8 = 4 then SB (KX w f (4 * (i / 4 - 1) + i % 4)) else KX w f (4 * (i / 4 - 1) + i % 4)) := by
  rw [KX, dif_neg (by omega)]
theorem KX_lt {w : Nat} {f : Nat → Nat} (hw : 0 < w) (hf : by8 (4 * w) f) : ∀ i, KX w f i < 256 := by
  intro i
  induction i using Nat.strongRecOn with
  | ind i ih =>
    by_cases h : i < 4 * w
    · rw [KX_lo h]; exact hf i h
    · rw [KX_hi hw (by omega)]
      have h1 := ih (4 * (i / 4 - w) + i % 4) (by omega)
      have h2 := ih (4 * (i / 4 - 1) + (i % 4 + 1) % 4) (by omega)
      have h3 := ih (4 * (i / 4 - 1) + i % 4) (by omega)
      apply b_x h1
      split
      · split
        · exact b_x (SB_lt _ h2) (pw_lt _)
        · exact SB_lt _ h2
      · split
        · exact SB_lt _ h3
        · exact h3
/-- a round key's word -/
def KW (w : Nat) (f : Nat → Nat) (i : Nat) : Nat := W4 (KX w f (4 * i)) (KX w f (4 * i + 1)) (KX w f (4 * i + 2)) (KX w f (4 * i + 3))
/-- boxes and turned rows: hiding, showing -/
def hsr (s : Nat → Nat) (k : Nat) : Nat := SB (s ((k + 4 * (k % 4)) % 16))
def ssr (s : Nat → Nat) (k : Nat) : Nat := BK (s ((k + 12 * (k % 4)) % 16))
def mxf (s : Nat → Nat) (k : Nat) : Nat := mc (s k) (s (k - k % 4 + (k % 4 + 1) % 4)) (s (k - k % 4 + (k % 4 + 2) % 4)) (s (k - k % 4 + (k % 4 + 3) % 4))
def imf (s : Nat → Nat) (k : Nat) : Nat := ic (s k) (s (k - k % 4 + (k % 4 + 1) % 4)) (s (k - k % 4 + (k % 4 + 2) % 4)) (s (k - k % 4 + (k % 4 + 3) % 4))
def hst (K s : Nat → Nat) : Nat → Nat → Nat
  | 0, k => s k ^^^ K k
  | r + 1, k => mxf (hsr (hst K s r)) k ^^^ K (16 * (r + 1) + k)
def hid (K : Nat → Nat) (R : Nat) (s : Nat → Nat) (k : Nat) : Nat := hsr (hst K s (R - 1)) k ^^^ K (16 * R + k)
def sst (K : Nat → Nat) (R : Nat) (s : Nat → Nat) : Nat → Nat → Nat
  | 0, k => s k ^^^ K (16 * R + k)
  | r + 1, k => imf (fun j => ssr (sst K R s r) j ^^^ K (16 * (R - 1 - r) + j)) k
def sho (K : Nat → Nat) (R : Nat) (s : Nat → Nat) (k : Nat) : Nat := ssr (sst K R s (R - 1)) k ^^^ K k
theorem hsr_lt {s : Nat → Nat} (h : by8 16 s) : by8 16 (hsr s) := fun k _ => SB_lt _ (h _ (by omega))
theorem ssr_lt {s : Nat → Nat} (h : by8 16 s) : by8 16 (ssr s) := fun k _ => BK_lt _ (h _ (by omega))
theorem mxf_lt {s : Nat → Nat} (h : by8 16 s) : by8 16 (mxf s) := fun k hk => mc_lt (h _ hk) (h _ (by omega)) (h _ (by omega)) (h _ (by omega))
theorem imf_lt {s : Nat → Nat} (h : by8 16 s) : by8 16 (imf s) := fun k hk => ic_lt (h _ hk) (h _ (by omega)) (h _ (by omega)) (h _ (by omega))
theorem hst_lt {K s : Nat → Nat} (hK : ∀ i, K i < 256) (h : by8 16 s) : ∀ r, by8 16 (hst K s r)
  | 0 => fun k hk => b_x (h k hk) (hK _)
  | r + 1 => fun k hk => b_x (mxf_lt (hsr_lt (hst_lt hK h r)) k hk) (hK _)
theorem hid_lt {K s : Nat → Nat} {R : Nat} (hK : ∀ i, K i < 256) (h : by8 16 s) : by8 16 (hid K R s) := fun k hk => b_x (hsr_lt (hst_lt hK h _) k hk) (hK _)
theorem sst_lt {K s : Nat → Nat} {R : Nat} (hK : ∀ i, K i < 256) (h : by8 16 s) : ∀ r, by8 16 (sst K R s r)
  | 0 => fun k hk => b_x (h k hk) (hK _)
  | r + 1 => imf_lt (fun k hk => b_x (ssr_lt (sst_lt hK h r) k hk) (hK _))
theorem sho_lt {K s : Nat → Nat} {R : Nat} (hK : ∀ i, K i < 256) (h : by8 16 s) : by8 16 (sho K R s) := fun k hk => b_x (ssr_lt (sst_lt hK h _) k hk) (hK _)
/-- a column of a block as a word -/
def cw (s : Nat → Nat) (c : Nat) : Nat := W4 (s (4 * c)) (s (4 * c + 1)) (s (4 * c + 2)) (s (4 * c + 3))
theorem cw_lt {s : Nat → Nat} {c : Nat} (h : by8 16 s) (hc : c < 4) : cw s c < 4294967296 := W4_lt (h _ (by omega)) (h _ (by omega)) (h _ (by omega)) (h _ (by omega))
theorem cw_xor {s t : Nat → Nat} {c : Nat} (h : by8 16 s) (h' : ∀ i, t i < 256) (hc : c < 4) : cw s c ^^^ cw t c = cw (fun k => s k ^^^ t k) c := W4_xor (h _ (by omega)) (h _ (by omega)) (h _ (by omega)) (h' _) (h' _) (h' _)
/-! a word's bytes -/
def b0 (x : Nat) : Nat := x / 16777216
def b1 (x : Nat) : Nat := x / 65536 % 256
def b2 (x : Nat) : Nat := x / 256 % 256
def b3 (x : Nat) : Nat := x % 256
theorem b0_lt {x : Nat} (h : x < 4294967296) : b0 x < 256 := by unfold b0; omega
theorem b1_lt (x : Nat) : b1 x < 256 := by unfold b1; omega
theorem b2_lt (x : Nat) : b2 x < 256 := by unfold b2; omega
theorem b3_lt (x : Nat) : b3 x < 256 := by unfold b3; omega
theorem W4_b (x : Nat) : W4 (b0 x) (b1 x) (b2 x) (b3 x) = x := by unfold W4 b0 b1 b2 b3; omega
theorem b0_W4 {a b c d : Nat} (hb : b < 256) (hc : c < 256) (hd : d < 256) : b0 (W4 a b c d) = a := by unfold W4 b0; omega
theorem b1_W4 {a b c d : Nat} (hb : b < 256) (hc : c < 256) (hd : d < 256) : b1 (W4 a b c d) = b := by unfold W4 b1; omega
theorem b2_W4 {a b c d : Nat} (hc : c < 256) (hd : d < 256) : b2 (W4 a b c d) = c := by unfold W4 b2; omega
theorem b3_W4 {a b c d : Nat} (hd : d < 256) : b3 (W4 a b c d) = d := by unfold W4 b3; omega
def TE (x : Nat) : Nat := W4 (xt (b0 x)) (xt (b1 x)) (xt (b2 x)) (xt (b3 x))
def MX (x : Nat) : Nat := W4 (mc (b0 x) (b1 x) (b2 x) (b3 x)) (mc (b1 x) (b2 x) (b3 x) (b0 x)) (mc (b2 x) (b3 x) (b0 x) (b1 x)) (mc (b3 x) (b0 x) (b1 x) (b2 x))
def M2 (x : Nat) : Nat := W4 (m2 (b0 x) (b2 x)) (m2 (b1 x) (b3 x)) (m2 (b2 x) (b0 x)) (m2 (b3 x) (b1 x))
theorem TE_lt {x : Nat} (h : x < 4294967296) : TE x < 4294967296 := W4_lt (xt_lt _ (b0_lt h)) (xt_lt _ (b1_lt x)) (xt_lt _ (b2_lt x)) (xt_lt _ (b3_lt x))
theorem MX_lt {x : Nat} (h : x < 4294967296) : MX x < 4294967296 := W4_lt (mc_lt (b0_lt h) (b1_lt x) (b2_lt x) (b3_lt x)) (mc_lt (b1_lt x) (b2_lt x) (b3_lt x) (b0_lt h)) (mc_lt (b2_lt x) (b3_lt x) (b0_lt h) (b1_lt x)) (mc_lt (b3_lt x) (b0_lt h) (b1_lt x) (b2_lt x))
theorem M2_lt {x : Nat} (h : x < 4294967296) : M2 x < 4294967296 := W4_lt (m2_lt (b0_lt h) (b2_lt x)) (m2_lt (b1_lt x) (b3_lt x)) (m2_lt (b2_lt x) (b0_lt h)) (m2_lt (b3_lt x) (b1_lt x))
theorem TE_of {x : Nat} (h : x < 4294967296) : ((x &&& 2139062143) * 2) ^^^ ((x / 128 &&& 16843009) * 27) = TE x := by
  have e := W4_xt (b0_lt h) (b1_lt x) (b2_lt x) (b3_lt x)
  rw [W4_b] at e
  exact e
theorem rot1 {x : Nat} (h : x < 4294967296) : x * 256 % 4294967296 ||| x / 16777216 = W4 (b1 x) (b2 x) (b3 x) (b0 x) := by
  have e := W4_r1 (b0_lt h) (b1_lt x) (b2_lt x) (b3_lt x)
  rw [W4_b] at e
  exact e
theorem rot2 {x : Nat} (h : x < 4294967296) : x * 65536 % 4294967296 ||| x / 65536 = W4 (b2 x) (b3 x) (b0 x) (b1 x) := by
  have e := W4_r2 (b0_lt h) (b1_lt x) (b2_lt x) (b3_lt x)
  rw [W4_b] at e
  exact e
theorem rot3 {x : Nat} (h : x < 4294967296) : x * 16777216 % 4294967296 ||| x / 256 = W4 (b3 x) (b0 x) (b1 x) (b2 x) := by
  have e := W4_r3 (b0_lt h) (b1_lt x) (b2_lt x) (b3_lt x)
  rw [W4_b] at e
  exact e
theorem w_x {x y : Nat} (h : x < 4294967296) (h' : y < 4294967296) : x ^^^ y < 4294967296 := Nat.xor_lt_two_pow (n := 32) h h'
theorem x_W4 {x a b c d : Nat} (hb : b < 256) (hc : c < 256) (hd : d < 256) : x ^^^ W4 a b c d = W4 (b0 x ^^^ a) (b1 x ^^^ b) (b2 x ^^^ c) (b3 x ^^^ d) := by
  have e := W4_xor (a := b0 x) (a' := a) (b1_lt x) (b2_lt x) (b3_lt x) hb hc hd
  rw [W4_b] at e
  exact e
/-- the class's mixing -/
theorem MX_of {x : Nat} (h : x < 4294967296) : ((TE x ^^^ ((x ^^^ TE x) * 256 % 4294967296 ||| (x ^^^ TE x) / 16777216)) ^^^ (x * 65536 % 4294967296 ||| x / 65536)) ^^^ (x * 16777216 % 4294967296 ||| x / 256) = MX x := by
  have h0 := b0_lt h
  have h1 := b1_lt x
  have h2 := b2_lt x
  have h3 := b3_lt x
  have k0 := xt_lt _ h0
  have k1 := xt_lt _ h1
  have k2 := xt_lt _ h2
  have k3 := xt_lt _ h3
  rw [rot1 (w_x h (TE_lt h)), rot2 h, rot3 h]
  have e : x ^^^ TE x = W4 (b0 x ^^^ xt (b0 x)) (b1 x ^^^ xt (b1 x)) (b2 x ^^^ xt (b2 x)) (b3 x ^^^ xt (b3 x)) := x_W4 k1 k2 k3
  rw [e, b0_W4 (b_x h1 k1) (b_x h2 k2) (b_x h3 k3), b1_W4 (b_x h1 k1) (b_x h2 k2) (b_x h3 k3), b2_W4 (b_x h2 k2) (b_x h3 k3), b3_W4 (b_x h3 k3)]
  unfold TE MX mc
  rw [W4_xor k1 k2 k3 (b_x h2 k2) (b_x h3 k3) (b_x h0 k0)]
  rw [W4_xor (b_x k1 (b_x h2 k2)) (b_x k2 (b_x h3 k3)) (b_x k3 (b_x h0 k0)) h3 h0 h1]
  rw [W4_xor (b_x (b_x k1 (b_x h2 k2)) h3) (b_x (b_x k2 (b_x h3 k3)) h0) (b_x (b_x k3 (b_x h0 k0)) h1) h0 h1 h2]
theorem M2_of {x : Nat} (h : x < 4294967296) : x ^^^ TE (TE (x ^^^ (x * 65536 % 4294967296 ||| x / 65536))) = M2 x := by
  have h0 := b0_lt h
  have h1 := b1_lt x
  have h2 := b2_lt x
  have h3 := b3_lt x
  rw [rot2 h, x_W4 h3 h0 h1]
  have g0 := b_x h0 h2
  have g1 := b_x h1 h3
  have g2 := b_x h2 h0
  have g3 := b_x h3 h1
  have e1 : TE (W4 (b0 x ^^^ b2 x) (b1 x ^^^ b3 x) (b2 x ^^^ b0 x) (b3 x ^^^ b1 x)) = W4 (xt (b0 x ^^^ b2 x)) (xt (b1 x ^^^ b3 x)) (xt (b2 x ^^^ b0 x)) (xt (b3 x ^^^ b1 x)) := by
    unfold TE
    rw [b0_W4 g1 g2 g3, b1_W4 g1 g2 g3, b2_W4 g2 g3, b3_W4 g3]
  have k0 := xt_lt _ g0
  have k1 := xt_lt _ g1
  have k2 := xt_lt _ g2
  have k3 := xt_lt _ g3
  rw [e1]
  unfold TE
  rw [b0_W4 k1 k2 k3, b1_W4 k1 k2 k3, b2_W4 k2 k3, b3_W4 k3, x_W4 (xt_lt _ k1) (xt_lt _ k2) (xt_lt _ k3)]
  rfl
theorem b0_cw {s : Nat → Nat} {c : Nat} (h : by8 16 s) (hc : c < 4) : b0 (cw s c) = s (4 * c) := b0_W4 (h _ (by omega)) (h _ (by omega)) (h _ (by omega))
theorem b1_cw {s : Nat → Nat} {c : Nat} (h : by8 16 s) (hc : c < 4) : b1 (cw s c) = s (4 * c + 1) := b1_W4 (h _ (by omega)) (h _ (by omega)) (h _ (by omega))
theorem b2_cw {s : Nat → Nat} {c : Nat} (h : by8 16 s) (hc : c < 4) : b2 (cw s c) = s (4 * c + 2) := b2_W4 (h _ (by omega)) (h _ (by omega))
theorem b3_cw {s : Nat → Nat} {c : Nat} (h : by8 16 s) (hc : c < 4) : b3 (cw s c) = s (4 * c + 3) := b3_W4 (h _ (by omega))
theorem c_4 {P : Nat → Prop} (h0 : P 0) (h1 : P 1) (h2 : P 2) (h3 : P 3) : ∀ c, c < 4 → P c := fun c hc => by
  rcases (by omega : c = 0 ∨ c = 1 ∨ c = 2 ∨ c = 3) with rfl | rfl | rfl | rfl
  · exact h0
  · exact h1
  · exact h2
  · exact h3
theorem MX_cw {s : Nat → Nat} (h : by8 16 s) : ∀ c, c < 4 → MX (cw s c) = cw (mxf s) c := by
  intro c hc
  unfold MX
  rw [b0_cw h hc, b1_cw h hc, b2_cw h hc, b3_cw h hc]
  revert c
  exact c_4 rfl rfl rfl rfl
theorem IX_cw {s : Nat → Nat} (h : by8 16 s) : ∀ c, c < 4 → MX (M2 (cw s c)) = cw (imf s) c := by
  intro c hc
  have g0 := h (4 * c) (by omega)
  have g1 := h (4 * c + 1) (by omega)
  have g2 := h (4 * c + 2) (by omega)
  have g3 := h (4 * c + 3) (by omega)
  unfold MX M2
  rw [b0_cw h hc, b1_cw h hc, b2_cw h hc, b3_cw h hc]
  rw [b0_W4 (m2_lt g1 g3) (m2_lt g2 g0) (m2_lt g3 g1), b1_W4 (m2_lt g1 g3) (m2_lt g2 g0) (m2_lt g3 g1), b2_W4 (m2_lt g2 g0) (m2_lt g3 g1), b3_W4 (m2_lt g3 g1)]
  clear g0 g1 g2 g3
  revert c
  exact c_4 rfl rfl rfl rfl
/-- what the class picks out of four words -/
theorem pk_h {s : Nat → Nat} (h : by8 16 s) : ∀ c, c < 4 → W4 (SB (b0 (cw s c))) (SB (b1 (cw s ((c + 1) % 4)))) (SB (b2 (cw s ((c + 2) % 4)))) (SB (b3 (cw s ((c + 3) % 4)))) = cw (hsr s) c := by
  intro c hc
  rw [b0_cw h hc, b1_cw h (by omega), b2_cw h (by omega), b3_cw h (by omega)]
  revert c
  exact c_4 rfl rfl rfl rfl
theorem pk_s {s : Nat → Nat} (h : by8 16 s) : ∀ c, c < 4 → W4 (BK (b0 (cw s c))) (BK (b1 (cw s ((c + 3) % 4)))) (BK (b2 (cw s ((c + 2) % 4)))) (BK (b3 (cw s ((c + 1) % 4)))) = cw (ssr s) c := by
  intro c hc
  rw [b0_cw h hc, b1_cw h (by omega), b2_cw h (by omega), b3_cw h (by omega)]
  revert c
  exact c_4 rfl rfl rfl rfl
theorem KW_cw (w : Nat) (f : Nat → Nat) (r : Nat) : ∀ c, c < 4 → KW w f (4 * r + c) = cw (fun k => KX w f (16 * r + k)) c := by
  intro c hc
  unfold KW cw
  rw [show 4 * (4 * r + c) = 16 * r + 4 * c by omega, Nat.add_assoc, Nat.add_assoc, Nat.add_assoc]
theorem KW_lt {w : Nat} {f : Nat → Nat} (hw : 0 < w) (hf : by8 (4 * w) f) (i : Nat) : KW w f i < 4294967296 := W4_lt (KX_lt hw hf _) (KX_lt hw hf _) (KX_lt hw hf _) (KX_lt hw hf _)
/-- a round of hiding, of showing, column by column -/
theorem hst_0 {w : Nat} {f s : Nat → Nat} (hw : 0 < w) (hf : by8 (4 * w) f) (h : by8 16 s) : ∀ c, c < 4 → cw s c ^^^ KW w f c = cw (hst (KX w f) s 0) c := by
  intro c hc
  have e := KW_cw w f 0 c hc
  rw [show 4 * 0 + c = c by omega] at e
  rw [e, cw_xor h (fun i => KX_lt hw hf _) hc]
  unfold cw hst
  simp only [Nat.mul_zero, Nat.zero_add]
theorem hst_up {w r : Nat} {f s : Nat → Nat} (hw : 0 < w) (hf : by8 (4 * w) f) (h : by8 16 s) : ∀ c, c < 4 → MX (W4 (SB (b0 (cw (hst (KX w f) s r) c))) (SB (b1 (cw (hst (KX w f) s r) ((c + 1) % 4)))) (SB (b2 (cw (hst (KX w f) s r) ((c + 2) % 4)))) (SB (b3 (cw (hst (KX w f) s r) ((c + 3) % 4))))) ^^^ KW w f (4 * (r + 1) + c) = cw (hst (KX w f) s (r + 1)) c := by
  intro c hc
  have h1 := hst_lt (fun i => KX_lt hw hf i) h r
  rw [pk_h h1 c hc, MX_cw (hsr_lt h1) c hc, KW_cw w f (r + 1) c hc, cw_xor (mxf_lt (hsr_lt h1)) (fun i => KX_lt hw hf _) hc]
  rfl
theorem hid_c {w R : Nat} {f s : Nat → Nat} (hw : 0 < w) (hf : by8 (4 * w) f) (h : by8 16 s) : ∀ c, c < 4 → W4 (SB (b0 (cw (hst (KX w f) s (R - 1)) c))) (SB (b1 (cw (hst (KX w f) s (R - 1)) ((c + 1) % 4)))) (SB (b2 (cw (hst (KX w f) s (R - 1)) ((c + 2) % 4)))) (SB (b3 (cw (hst (KX w f) s (R - 1)) ((c + 3) % 4)))) ^^^ KW w f (4 * R + c) = cw (hid (KX w f) R s) c := by
  intro c hc
  have h1 := hst_lt (fun i => KX_lt hw hf i) h (R - 1)
  rw [pk_h h1 c hc, KW_cw w f R c hc, cw_xor (hsr_lt h1) (fun i => KX_lt hw hf _) hc]
  rfl
theorem sst_0 {w R : Nat} {f s : Nat → Nat} (hw : 0 < w) (hf : by8 (4 * w) f) (h : by8 16 s) : ∀ c, c < 4 → cw s c ^^^ KW w f (4 * R + c) = cw (sst (KX w f) R s 0) c := by
  intro c hc
  rw [KW_cw w f R c hc, cw_xor h (fun i => KX_lt hw hf _) hc]
  rfl
theorem sst_up {w R r : Nat} {f s : Nat → Nat} (hw : 0 < w) (hf : by8 (4 * w) f) (h : by8 16 s) : ∀ c, c < 4 → MX (M2 (W4 (BK (b0 (cw (sst (KX w f) R s r) c))) (BK (b1 (cw (sst (KX w f) R s r) ((c + 3) % 4)))) (BK (b2 (cw (sst (KX w f) R s r) ((c + 2) % 4)))) (BK (b3 (cw (sst (KX w f) R s r) ((c + 1) % 4)))) ^^^ KW w f (4 * (R - 1 - r) + c))) = cw (sst (KX w f) R s (r + 1)) c := by
  intro c hc
  have h1 := sst_lt (R := R) (fun i => KX_lt hw hf i) h r
  rw [pk_s h1 c hc, KW_cw w f (R - 1 - r) c hc, cw_xor (ssr_lt h1) (fun i => KX_lt hw hf _) hc, IX_cw (fun k hk => b_x (ssr_lt h1 k hk) (KX_lt hw hf _)) c hc]
  rfl
theorem sho_c {w R : Nat} {f s : Nat → Nat} (hw : 0 < w) (hf : by8 (4 * w) f) (h : by8 16 s) : ∀ c, c < 4 → W4 (BK (b0 (cw (sst (KX w f) R s (R - 1)) c))) (BK (b1 (cw (sst (KX w f) R s (R - 1)) ((c + 3) % 4)))) (BK (b2 (cw (sst (KX w f) R s (R - 1)) ((c + 2) % 4)))) (BK (b3 (cw (sst (KX w f) R s (R - 1)) ((c + 1) % 4)))) ^^^ KW w f c = cw (sho (KX w f) R s) c := by
  intro c hc
  have h1 := sst_lt (R := R) (fun i => KX_lt hw hf i) h (R - 1)
  have e := KW_cw w f 0 c hc
  rw [show 4 * 0 + c = c by omega] at e
  rw [pk_s h1 c hc, e, cw_xor (ssr_lt h1) (fun i => KX_lt hw hf _) hc]
  unfold cw sho
  simp only [Nat.mul_zero, Nat.zero_add]
/-- the next word of the round keys -/
def KT (w : Nat) (f : Nat → Nat) (i : Nat) : Nat := if i % w = 0 then W4 (SB (b1 (KW w f (i - 1))) ^^^ pw ((i - 1) / w)) (SB (b2 (KW w f (i - 1)))) (SB (b3 (KW w f (i - 1)))) (SB (b0 (KW w f (i - 1)))) else if w = 8 ∧ i % 8 = 4 then W4 (SB (b0 (KW w f (i - 1)))) (SB (b1 (KW w f (i - 1)))) (SB (b2 (KW w f (i - 1)))) (SB (b3 (KW w f (i - 1)))) else KW w f (i - 1)
theorem KW_up {w i : Nat} {f : Nat → Nat} (hw : 0 < w) (hf : by8 (4 * w) f) (hi : w ≤ i) : KW w f (i - w) ^^^ KT w f i = KW w f i := by
  have hK := fun j => KX_lt hw hf j
  have e : ∀ k, k < 4 → KX w f (4 * i + k) = KX w f (4 * (i - w) + k) ^^^
      (if i % w = 0 then (if k = 0 then SB (KX w f (4 * (i - 1) + (k + 1) % 4)) ^^^ pw (i / w - 1) else SB (KX w f (4 * (i - 1) + (k + 1) % 4)))
       else if w = 8 ∧ i % 8 = 4 then SB (KX w f (4 * (i - 1) + k)) else KX w f (4 * (i - 1) + k)) := by
    intro k hk
    have a1 : (4 * i + k) / 4 = i := by omega
    have a2 : (4 * i + k) % 4 = k := by omega
    rw [KX_hi hw (by omega), a1, a2]
  have e0 := e 0 (by decide)
  have e1 := e 1 (by decide)
  have e2 := e 2 (by decide)
  have e3 := e 3 (by decide)
  have p0 : b0 (KW w f (i - 1)) = KX w f (4 * (i - 1)) := b0_W4 (hK _) (hK _) (hK _)
  have p1 : b1 (KW w f (i - 1)) = KX w f (4 * (i - 1) + 1) := b1_W4 (hK _) (hK _) (hK _)
  have p2 : b2 (KW w f (i - 1)) = KX w f (4 * (i - 1) + 2) := b2_W4 (hK _) (hK _)
  have p3 : b3 (KW w f (i - 1)) = KX w f (4 * (i - 1) + 3) := b3_W4 (hK _)
  unfold KT
  rw [p0, p1, p2, p3]
  by_cases hz : i % w = 0
  · rw [if_pos hz] at e0 e1 e2 e3
    rw [if_pos hz]
    have hq : (i - 1) / w = i / w - 1 := by
      obtain ⟨q, hq⟩ := Nat.dvd_of_mod_eq_zero hz
      subst hq
      rw [Nat.mul_div_cancel_left _ hw]
      have hq1 : 1 ≤ q := by
        rcases Nat.eq_zero_or_pos q with h | h
        · subst h; omega
        · exact h
      obtain ⟨q', rfl⟩ : ∃ q', q = q' + 1 := ⟨q - 1, by omega⟩
      rw [Nat.mul_add, Nat.mul_one, Nat.add_sub_assoc (by omega), Nat.mul_add_div hw, Nat.div_eq_of_lt (by omega)]
      omega
    rw [hq]
    unfold KW
    rw [W4_xor (hK _) (hK _) (hK _) (SB_lt _ (hK _)) (SB_lt _ (hK _)) (SB_lt _ (hK _)), show 4 * i = 4 * i + 0 from rfl, e0, e1, e2, e3]
    rfl
  · rw [if_neg hz] at e0 e1 e2 e3
    rw [if_neg hz]
    by_cases h8 : w = 8 ∧ i % 8 = 4
    · rw [if_pos h8] at e0 e1 e2 e3
      rw [if_pos h8]
      unfold KW
      rw [W4_xor (hK _) (hK _) (hK _) (SB_lt _ (hK _)) (SB_lt _ (hK _)) (SB_lt _ (hK _)), show 4 * i = 4 * i + 0 from rfl, e0, e1, e2, e3]
      rfl
    · rw [if_neg h8] at e0 e1 e2 e3
      rw [if_neg h8]
      unfold KW
      rw [W4_xor (hK _) (hK _) (hK _) (hK _) (hK _) (hK _), show 4 * i = 4 * i + 0 from rfl, e0, e1, e2, e3]
      rfl
def pw4 (f : Nat → Nat) (p x : Nat) : Nat → Nat := va_up (va_up (va_up (va_up f p (b0 x)) (p + 1) (b1 x)) (p + 2) (b2 x)) (p + 3) (b3 x)
theorem j_16 {P : Nat → Prop} (h0 : P 0) (h1 : P 1) (h2 : P 2) (h3 : P 3) (h4 : P 4) (h5 : P 5) (h6 : P 6) (h7 : P 7) (h8 : P 8) (h9 : P 9) (ha : P 10) (hb : P 11) (hc : P 12) (hd : P 13) (he : P 14) (hf : P 15) : ∀ j, j < 16 → P j := fun j hj => by
  rcases (by omega : j = 0 ∨ j = 1 ∨ j = 2 ∨ j = 3 ∨ j = 4 ∨ j = 5 ∨ j = 6 ∨ j = 7 ∨ j = 8 ∨ j = 9 ∨ j = 10 ∨ j = 11 ∨ j = 12 ∨ j = 13 ∨ j = 14 ∨ j = 15) with rfl | rfl | rfl | rfl | rfl | rfl | rfl | rfl | rfl | rfl | rfl | rfl | rfl | rfl | rfl | rfl <;> assumption
theorem pw4_all {s H : Nat → Nat} (h : by8 16 H) : ∀ j, j < 16 → pw4 (pw4 (pw4 (pw4 s 0 (cw H 0)) 4 (cw H 1)) 8 (cw H 2)) 12 (cw H 3) j = H j := by
  unfold pw4
  rw [b0_cw h (c := 0) (by decide), b1_cw h (c := 0) (by decide), b2_cw h (c := 0) (by decide), b3_cw h (c := 0) (by decide)]
  rw [b0_cw h (c := 1) (by decide), b1_cw h (c := 1) (by decide), b2_cw h (c := 1) (by decide), b3_cw h (c := 1) (by decide)]
  rw [b0_cw h (c := 2) (by decide), b1_cw h (c := 2) (by decide), b2_cw h (c := 2) (by decide), b3_cw h (c := 2) (by decide)]
  rw [b0_cw h (c := 3) (by decide), b1_cw h (c := 3) (by decide), b2_cw h (c := 3) (by decide), b3_cw h (c := 3) (by decide)]
  exact j_16 rfl rfl rfl rfl rfl rfl rfl rfl rfl rfl rfl rfl rfl rfl rfl rfl
theorem KW_lo {w i : Nat} {f : Nat → Nat} (h : i < w) : W4 (f (4 * i)) (f (4 * i + 1)) (f (4 * i + 2)) (f (4 * i + 3)) = KW w f i := by
  unfold KW
  rw [KX_lo (by omega), KX_lo (by omega), KX_lo (by omega), KX_lo (by omega)]
