theorem hm_t {a b n : Nat} (h : b / 2 ^ (7 - n) &&& 1 = 1) : xt (hm a b n) ^^^ a = hm a b (n + 1) := by
  rw [b_and1] at h
  show _ = (if b / 2 ^ (7 - n) % 2 = 1 then xt (hm a b n) ^^^ a else xt (hm a b n))
  rw [if_pos h]
theorem hm_f {a b n : Nat} (h : ¬ b / 2 ^ (7 - n) &&& 1 = 1) : xt (hm a b n) = hm a b (n + 1) := by
  rw [b_and1] at h
  show _ = (if b / 2 ^ (7 - n) % 2 = 1 then xt (hm a b n) ^^^ a else xt (hm a b n))
  rw [if_neg h]
theorem m_M_times (l : Launch) (a : Nat) (b : Nat) (ha : a < 256) (hb : b < 256) : kMet l y_M_times c_M_times 4 (some .int) ⟨0, 0, 0, 0⟩ [.inl a, .inl b] [] (fun r_ w_ => r_ = some (.inl (mt a b)) ∧ w_ = []) := by
  refine kmet_of (lv0 := [(0, .inl a), (1, .inl b)]) false (by decide) (by decide) (Nat.le_of_ble_eq_true rfl) rfl ?_
  intro G h
  refine h.run (lv' := [(3, .inl 7), (2, .inl 0), (0, .inl a), (1, .inl b)]) (st' := []) (w' := []) (ob := []) [(.iconst 0, []), (.istore_n 2, []), (.bipush 7, []), (.istore_n 3, [])] (by decide +kernel) rfl rfl trivial ?_
  refine h.cast (lv' := [(3, .inr (.int (nI (8 - 0) - 1))), (2, .inl 0), (0, .inl a), (1, .inl b)]) (st' := []) (by have e_ : nI 7 = nI (8 - 0) - 1 := (by decide); simp only [dL, List.map_cons, List.map_nil, dV, e_]) rfl rfl ?_
  refine h.subL (lv' := [(0, .inl a), (1, .inl b), (2, .inl 0), (3, .inr (.int (nI (8 - 0) - 1)))]) [2, 3, 1, 0] rfl ?_
  have L5 : ∀ n, n ≤ 8 → G 5 [(0, .inl a), (1, .inl b), (2, .inl (hm a b n)), (3, .inr (.int (nI (8 - n) - 1)))] [] [] 0 0 := by
    refine loop_up (P := fun n => G 5 [(0, .inl a), (1, .inl b), (2, .inl (hm a b n)), (3, .inr (.int (nI (8 - n) - 1)))] [] [] 0 0) 8 (fun n hi_n ih_n => ?_)
    show G 5 [(0, .inl a), (1, .inl b), (2, .inl (hm a b n)), (3, .inr (.int (nI (8 - n) - 1)))] [] [] 0 0
    have hv := hm_lt (b := b) ha n
    refine h.run (lv' := [(0, .inl a), (1, .inl b), (2, .inl (hm a b n)), (3, .inr (.int (nI (8 - n) - 1)))]) (st' := [.inr (.int (nI (8 - n) - 1))]) (w' := []) (ob := []) [(.iload_n 3, [])] (by decide +kernel) rfl rfl trivial ?_
    refine h.ifc (pc2 := 45) (cd := .lt) (off := 39) (by decide +kernel) (by decide) rfl (fun hc6 => ?_) (fun hc6 => ?_)
    · have hc6 : nI (8 - n) - 1 < 0 := hc6
      have he_n : 8 - n = 0 := (kd_neg (by omega)).mp hc6
      refine h.run (lv' := [(0, .inl a), (1, .inl b), (2, .inl (hm a b n)), (3, .inr (.int (nI (8 - n) - 1)))]) (st' := [.inl (hm a b n)]) (w' := []) (ob := []) [(.iload_n 2, [])] (by decide +kernel) rfl rfl trivial ?_
      have hn8 : n = 8 := by omega
      subst hn8
      exact h.iret (by decide +kernel) rfl ⟨rfl, rfl⟩ (by decide) (by decide)
    · have hc6 : ¬ (nI (8 - n) - 1 < 0) := hc6
      have he_n : ¬ 8 - n = 0 := fun e => hc6 ((kd_neg (by omega)).mpr e)
      refine h.cast (lv' := [(0, .inl a), (1, .inl b), (2, .inl (hm a b n)), (3, .inl (7 - n))]) (st' := []) (by have e_ : nI (8 - n) - 1 = nI (7 - n) := (by rw [show 8 - n = (7 - n) + 1 by omega, nI_pred]); simp only [dL, List.map_cons, List.map_nil, dV, e_]) rfl rfl ?_
      refine h.run (lv' := [(2, .inl ((hm a b n) * 2)), (0, .inl a), (1, .inl b), (3, .inl (7 - n))]) (st' := [.inl 255, .inl ((hm a b n) * 2)]) (w' := []) (ob := [1 < 32]) [(.iload_n 2, []), (.iconst 1, []), (.ishl, []), (.istore_n 2, []), (.iload_n 2, []), (.sipush 255, [])] (by decide +kernel) rfl rfl (sA1 (by omega)) ?_
      refine h.icmpN (pc2 := 26) (cd := .le) (off := 9) (by decide +kernel) (by decide) (by omega) (by omega) (fun hc17 => ?_) (fun hc17 => ?_)
      · have hc17 : (hm a b n) * 2 ≤ 255 := hc17
        refine h.run (lv' := [(2, .inl ((hm a b n) * 2)), (0, .inl a), (1, .inl b), (3, .inl (7 - n))]) (st' := [.inl 1, .inl ((b / 2 ^ (7 - n)) &&& 1)]) (w' := []) (ob := [b < 2147483648 ∧ 7 - n < 32]) [(.iload_n 1, []), (.iload_n 3, []), (.ishr, []), (.iconst 1, []), (.iand, []), (.iconst 1, [])] (by decide +kernel) rfl rfl (sA1 ⟨by omega, by omega⟩) ?_
        refine h.icmpN (pc2 := 39) (cd := .ne) (off := 7) (by decide +kernel) (by decide) (by simp only [b_and255, b_and1]; omega) (by omega) (fun hc32 => ?_) (fun hc32 => ?_)
        · have hc32 : ¬ (b / 2 ^ (7 - n)) &&& 1 = 1 := hc32
          refine h.run (lv' := [(3, .inr (.int ((nI (7 - n)) + Int32.ofInt (-1)))), (2, .inl ((hm a b n) * 2)), (0, .inl a), (1, .inl b)]) (st' := []) (w' := []) (ob := []) [(.iinc 3 (-1), [1])] (by decide +kernel) rfl rfl trivial ?_
          refine h.goto (pc2 := 5) (off := -37) (by decide +kernel) (by decide) ?_
          refine h.cast (lv' := [(3, .inr (.int (nI (8 - (n + 1)) - 1))), (2, .inl ((hm a b n) * 2)), (0, .inl a), (1, .inl b)]) (st' := []) (by have e_ : (nI (7 - n)) + Int32.ofInt (-1) = nI (8 - (n + 1)) - 1 := (by rw [kd_dec, show 8 - (n + 1) = 7 - n by omega]); simp only [dL, List.map_cons, List.map_nil, dV, e_]) rfl rfl ?_
          rw [show hm a b n * 2 = xt (hm a b n) from xt_lo (by omega)]
          rw [show xt (hm a b n) = hm a b (n + 1) from hm_f hc32]
          refine h.subL (lv' := [(0, .inl a), (1, .inl b), (2, .inl (hm a b (n + 1))), (3, .inr (.int (nI (8 - (n + 1)) - 1)))]) [2, 3, 1, 0] rfl ?_
          exact ih_n (by omega)
        · have hc32 : (b / 2 ^ (7 - n)) &&& 1 = 1 := by simp only [sCmpN] at hc32; omega
          refine h.run (lv' := [(3, .inr (.int ((nI (7 - n)) + Int32.ofInt (-1)))), (2, .inl (((hm a b n) * 2) ^^^ a)), (0, .inl a), (1, .inl b)]) (st' := []) (w' := []) (ob := []) [(.iload_n 2, []), (.iload_n 0, []), (.ixor, []), (.istore_n 2, []), (.iinc 3 (-1), [1])] (by decide +kernel) rfl rfl trivial ?_
          refine h.goto (pc2 := 5) (off := -37) (by decide +kernel) (by decide) ?_
          refine h.cast (lv' := [(3, .inr (.int (nI (8 - (n + 1)) - 1))), (2, .inl (((hm a b n) * 2) ^^^ a)), (0, .inl a), (1, .inl b)]) (st' := []) (by have e_ : (nI (7 - n)) + Int32.ofInt (-1) = nI (8 - (n + 1)) - 1 := (by rw [kd_dec, show 8 - (n + 1) = 7 - n by omega]); simp only [dL, List.map_cons, List.map_nil, dV, e_]) rfl rfl ?_
          rw [show hm a b n * 2 = xt (hm a b n) from xt_lo (by omega)]
          rw [show xt (hm a b n) ^^^ a = hm a b (n + 1) from hm_t hc32]
          refine h.subL (lv' := [(0, .inl a), (1, .inl b), (2, .inl (hm a b (n + 1))), (3, .inr (.int (nI (8 - (n + 1)) - 1)))]) [2, 3, 1, 0] rfl ?_
          exact ih_n (by omega)
      · have hc17 : 255 < (hm a b n) * 2 := by simp only [sCmpN] at hc17; omega
        refine h.run (lv' := [(2, .inl (((hm a b n) * 2) ^^^ 283)), (0, .inl a), (1, .inl b), (3, .inl (7 - n))]) (st' := [.inl 1, .inl ((b / 2 ^ (7 - n)) &&& 1)]) (w' := []) (ob := [b < 2147483648 ∧ 7 - n < 32]) [(.iload_n 2, []), (.sipush 283, []), (.ixor, []), (.istore_n 2, []), (.iload_n 1, []), (.iload_n 3, []), (.ishr, []), (.iconst 1, []), (.iand, []), (.iconst 1, [])] (by decide +kernel) rfl rfl (sA1 ⟨by omega, by omega⟩) ?_
        refine h.icmpN (pc2 := 39) (cd := .ne) (off := 7) (by decide +kernel) (by decide) (by simp only [b_and255, b_and1]; omega) (by omega) (fun hc32 => ?_) (fun hc32 => ?_)
        · have hc32 : ¬ (b / 2 ^ (7 - n)) &&& 1 = 1 := hc32
          refine h.run (lv' := [(3, .inr (.int ((nI (7 - n)) + Int32.ofInt (-1)))), (2, .inl (((hm a b n) * 2) ^^^ 283)), (0, .inl a), (1, .inl b)]) (st' := []) (w' := []) (ob := []) [(.iinc 3 (-1), [1])] (by decide +kernel) rfl rfl trivial ?_
          refine h.goto (pc2 := 5) (off := -37) (by decide +kernel) (by decide) ?_
          refine h.cast (lv' := [(3, .inr (.int (nI (8 - (n + 1)) - 1))), (2, .inl (((hm a b n) * 2) ^^^ 283)), (0, .inl a), (1, .inl b)]) (st' := []) (by have e_ : (nI (7 - n)) + Int32.ofInt (-1) = nI (8 - (n + 1)) - 1 := (by rw [kd_dec, show 8 - (n + 1) = 7 - n by omega]); simp only [dL, List.map_cons, List.map_nil, dV, e_]) rfl rfl ?_
          rw [show hm a b n * 2 ^^^ 283 = xt (hm a b n) from xt_hi (by omega) (hm_lt ha n)]
          rw [show xt (hm a b n) = hm a b (n + 1) from hm_f hc32]
          refine h.subL (lv' := [(0, .inl a), (1, .inl b), (2, .inl (hm a b (n + 1))), (3, .inr (.int (nI (8 - (n + 1)) - 1)))]) [2, 3, 1, 0] rfl ?_
          exact ih_n (by omega)
        · have hc32 : (b / 2 ^ (7 - n)) &&& 1 = 1 := by simp only [sCmpN] at hc32; omega
          refine h.run (lv' := [(3, .inr (.int ((nI (7 - n)) + Int32.ofInt (-1)))), (2, .inl ((((hm a b n) * 2) ^^^ 283) ^^^ a)), (0, .inl a), (1, .inl b)]) (st' := []) (w' := []) (ob := []) [(.iload_n 2, []), (.iload_n 0, []), (.ixor, []), (.istore_n 2, []), (.iinc 3 (-1), [1])] (by decide +kernel) rfl rfl trivial ?_
          refine h.goto (pc2 := 5) (off := -37) (by decide +kernel) (by decide) ?_
          refine h.cast (lv' := [(3, .inr (.int (nI (8 - (n + 1)) - 1))), (2, .inl ((((hm a b n) * 2) ^^^ 283) ^^^ a)), (0, .inl a), (1, .inl b)]) (st' := []) (by have e_ : (nI (7 - n)) + Int32.ofInt (-1) = nI (8 - (n + 1)) - 1 := (by rw [kd_dec, show 8 - (n + 1) = 7 - n by omega]); simp only [dL, List.map_cons, List.map_nil, dV, e_]) rfl rfl ?_
          rw [show hm a b n * 2 ^^^ 283 = xt (hm a b n) from xt_hi (by omega) (hm_lt ha n)]
          rw [show xt (hm a b n) ^^^ a = hm a b (n + 1) from hm_t hc32]
          refine h.subL (lv' := [(0, .inl a), (1, .inl b), (2, .inl (hm a b (n + 1))), (3, .inr (.int (nI (8 - (n + 1)) - 1)))]) [2, 3, 1, 0] rfl ?_
          exact ih_n (by omega)
  exact L5 0 (by omega)
theorem m_M_inverse (l : Launch) (a : Nat) (ha : a < 256) : kMet l y_M_inverse c_M_inverse 2 (some .int) ⟨1, 0, 0, 23⟩ [.inl a] [] (fun r_ w_ => r_ = some (.inl (IV a)) ∧ w_ = []) := by
  refine kmet_of (lv0 := [(0, .inl a)]) false (by decide) (by decide) (Nat.le_of_ble_eq_true rfl) rfl ?_
  intro G h
  have hI : 0 < a → IVx a = IV a := fun h => if_neg (by omega)
  have hI0 : a = 0 → IVx a = 256 := fun h => if_pos h
  have hIl := IV_lt a ha
  refine h.run (lv' := [(1, .inl 0), (0, .inl a)]) (st' := []) (w' := []) (ob := []) [(.iconst 0, []), (.istore_n 1, [])] (by decide +kernel) rfl rfl trivial ?_
  refine h.subL (lv' := [(0, .inl a), (1, .inl 0)]) [1, 0] rfl ?_
  have L2 : ∀ b, b ≤ IVx a → G 2 [(0, .inl a), (1, .inl b)] [] [] 0 0 := by
    refine loop_up (P := fun b => G 2 [(0, .inl a), (1, .inl b)] [] [] 0 0) (IVx a) (fun b hi_b ih_b => ?_)
    show G 2 [(0, .inl a), (1, .inl b)] [] [] 0 0
    have hb256 : b ≤ 256 := by rcases Nat.eq_zero_or_pos a with h0 | h0; (have := hI0 h0; omega); (have := hI h0; omega)
    refine h.run (lv' := [(0, .inl a), (1, .inl b)]) (st' := [.inl 256, .inl b]) (w' := []) (ob := []) [(.iload_n 1, []), (.sipush 256, [])] (by decide +kernel) rfl rfl trivial ?_
    refine h.icmpN (pc2 := 24) (cd := .ge) (off := 18) (by decide +kernel) (by decide) (by omega) (by omega) (fun hc6 => ?_) (fun hc6 => ?_)
    · have hc6 : 256 ≤ b := hc6
      refine h.run (lv' := [(0, .inl a), (1, .inl b)]) (st' := [.inl 256, .inl b]) (w' := []) (ob := []) [(.iload_n 1, []), (.sipush 256, [])] (by decide +kernel) rfl rfl trivial ?_
      refine h.icmpN (pc2 := 35) (cd := .ge) (off := 7) (by decide +kernel) (by decide) (by omega) (by omega) (fun hc28 => ?_) (fun hc28 => ?_)
      · have hc28 : 256 ≤ b := hc28
        refine h.run (lv' := [(0, .inl a), (1, .inl b)]) (st' := [.inl 0]) (w' := []) (ob := []) [(.iconst 0, [])] (by decide +kernel) rfl rfl trivial ?_
        have ha0 : a = 0 := by rcases Nat.eq_zero_or_pos a with h0 | h0; (exact h0); (exfalso; have hq := hI h0; have := IV_lt a ha; omega)
        exact h.iret (by decide +kernel) rfl ⟨congrArg (fun x : Nat => some (Sum.inl x : sV)) (by rw [ha0, IV_0]), rfl⟩ (by decide) (by decide)
      · have hc28 : ¬ (256 ≤ b) := hc28
        exact absurd hc28 (by omega)
    · have hc6 : b < 256 := by simp only [sCmpN] at hc6; omega
      refine h.run (lv' := [(0, .inl a), (1, .inl b)]) (st' := [.inl b, .inl a]) (w' := []) (ob := []) [(.iload_n 0, []), (.iload_n 1, [])] (by decide +kernel) rfl rfl trivial ?_
      refine h.callSD (r0 := some (.inl (mt a b))) (wc' := []) (w2 := []) (wr := []) (rest := []) (m_M_times l a b (ha) (by omega)) (by decide +kernel) kl_M_63 kq_M_times ka_M_times ⟨by decide, by decide⟩ ⟨by decide, by decide⟩ rfl (Nat.le_of_ble_eq_true rfl) [] [] [] rfl rfl rfl rfl (by decide) rfl rfl ?_
      show G 14 [(0, .inl a), (1, .inl b)] [.inl (mt a b)] [] 0 0
      refine h.run (lv' := [(0, .inl a), (1, .inl b)]) (st' := [.inl 1, .inl (mt a b)]) (w' := []) (ob := []) [(.iconst 1, [])] (by decide +kernel) rfl rfl trivial ?_
      refine h.icmpN (pc2 := 24) (cd := .eq) (off := 9) (by decide +kernel) (by decide) (Nat.lt_of_lt_of_le (mt_lt b ha) (by decide)) (by omega) (fun hc15 => ?_) (fun hc15 => ?_)
      · have hc15 : mt a b = 1 := hc15
        refine h.run (lv' := [(0, .inl a), (1, .inl b)]) (st' := [.inl 256, .inl b]) (w' := []) (ob := []) [(.iload_n 1, []), (.sipush 256, [])] (by decide +kernel) rfl rfl trivial ?_
        refine h.icmpN (pc2 := 35) (cd := .ge) (off := 7) (by decide +kernel) (by decide) (by omega) (by omega) (fun hc28 => ?_) (fun hc28 => ?_)
        · have hc28 : 256 ≤ b := hc28
          exact absurd hc28 (by omega)
        · have hc28 : b < 256 := by simp only [sCmpN] at hc28; omega
          refine h.run (lv' := [(0, .inl a), (1, .inl b)]) (st' := [.inl b]) (w' := []) (ob := []) [(.iload_n 1, [])] (by decide +kernel) rfl rfl trivial ?_
          refine h.goto (pc2 := 36) (off := 4) (by decide +kernel) (by decide) ?_
          have hv1 := (mt_IV a ha b (by omega)).mp hc15
          exact h.iret (by decide +kernel) rfl ⟨congrArg (fun x : Nat => some (Sum.inl x : sV)) (hv1.2), rfl⟩ (by decide) (by decide)
      · have hc15 : ¬ mt a b = 1 := by simp only [sCmpN] at hc15; omega
        refine h.run (lv' := [(1, .inl (b + 1)), (0, .inl a)]) (st' := []) (w' := []) (ob := []) [(.iinc 1 1, [])] (by decide +kernel) rfl rfl trivial ?_
        refine h.goto (pc2 := 2) (off := -19) (by decide +kernel) (by decide) ?_
        refine h.subL (lv' := [(0, .inl a), (1, .inl (b + 1))]) [1, 0] rfl ?_
        exact ih_b (by rcases Nat.eq_zero_or_pos a with h0 | h0; (have := hI0 h0; omega); (have := hI h0; have hne : ¬ b = IV a := (fun e => hc15 ((mt_IV a ha b (by omega)).mpr ⟨h0, e⟩)); omega))
  exact L2 0 (by omega)
