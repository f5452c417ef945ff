theorem m_OU_clear (l : Launch) (u : Nat) (ur : Nat) (n : sV)  : kMet l y_OU_clear c_OU_clear 1 none ⟨0, 0, 0, 0⟩ [.inr (.ref u)] [(u, .inr (3, [.inr (.ref ur), n]))] (fun r_ w_ => r_ = none ∧ w_ = [(u, .inr (3, [.inr (.ref ur), .inl 0]))]) := by
  refine kmet_of (lv0 := [(0, .inr (.ref u))]) false (by decide) (by decide) (Nat.le_of_ble_eq_true rfl) rfl ?_
  intro G h
  refine h.run (lv' := [(0, .inr (.ref u))]) (st' := []) (w' := [(u, .inr (3, [.inr (.ref ur), .inl 0]))]) (ob := [u = u ∧ ∃ ty, kPutW false ROU 15 3 1 ty ∧ narrow ty (dV (.inl 0)) = dV (.inl 0) ∧ fits ty (dV (.inl 0)) = true]) [(.aload_n 0, []), (.iconst 0, []), (.putfield 15, [0, 1])] (by decide +kernel) rfl rfl (sA1 ⟨rfl, _, kp_OU_15_3_f, rfl, rfl⟩) ?_
  exact h.vret (by decide +kernel) ⟨rfl, rfl⟩ (by decide) (by decide)
theorem m_OU_count (l : Launch) (u : Nat) (ur : Nat) (n : Nat)  : kMet l y_OU_count c_OU_count 1 (some .int) ⟨0, 0, 0, 0⟩ [.inr (.ref u)] [(u, .inr (3, [.inr (.ref ur), .inl n]))] (fun r_ w_ => r_ = some (.inl n) ∧ w_ = [(u, .inr (3, [.inr (.ref ur), .inl n]))]) := by
  refine kmet_of (lv0 := [(0, .inr (.ref u))]) false (by decide) (by decide) (Nat.le_of_ble_eq_true rfl) rfl ?_
  intro G h
  refine h.run (lv' := [(0, .inr (.ref u))]) (st' := [.inl n]) (w' := [(u, .inr (3, [.inr (.ref ur), .inl n]))]) (ob := [u = u ∧ kFld ROU 15 3 1]) [(.aload_n 0, []), (.getfield 15, [0, 1])] (by decide +kernel) rfl rfl (sA1 ⟨rfl, kf_OU_15_3⟩) ?_
  exact h.iret (by decide +kernel) rfl ⟨rfl, rfl⟩ (by decide) (by decide)
theorem m_OU_add (l : Launch) (u : Nat) (ur : Nat) (n : Nat) (b : Nat) (f : Nat → Nat) (hn : n < 4112) : kMet l y_OU_add c_OU_add 2 none ⟨0, 0, 0, 0⟩ [.inr (.ref u), .inl b] [(u, .inr (3, [.inr (.ref ur), .inl n])), (ur, .inl (4112, f))] (fun r_ w_ => r_ = none ∧ w_ = [(u, .inr (3, [.inr (.ref ur), .inl (n + 1)])), (ur, .inl (4112, va_up f n b))]) := by
  refine kmet_of (lv0 := [(0, .inr (.ref u)), (1, .inl b)]) false (by decide) (by decide) (Nat.le_of_ble_eq_true rfl) rfl ?_
  intro G h
  refine h.run (lv' := [(0, .inr (.ref u)), (1, .inl b)]) (st' := [.inl 4112, .inl n]) (w' := [(u, .inr (3, [.inr (.ref ur), .inl n])), (ur, .inl (4112, f))]) (ob := [u = u ∧ kFld ROU 15 3 1, u = u ∧ kFld ROU 9 3 0, ur = ur]) [(.aload_n 0, []), (.getfield 15, [0, 1]), (.aload_n 0, []), (.getfield 9, [0, 0]), (.arraylength, [1])] (by decide +kernel) rfl rfl (sAc ⟨rfl, kf_OU_15_3⟩ (sAc ⟨rfl, kf_OU_9_3⟩ (sA1 (rfl)))) ?_
  refine h.icmpN (pc2 := 32) (cd := .ge) (off := 23) (by decide +kernel) (by decide) (by omega) (by omega) (fun hc9 => ?_) (fun hc9 => ?_)
  · have hc9 : 4112 ≤ n := hc9
    exact absurd hc9 (by omega)
  · have hc9 : n < 4112 := by simp only [sCmpN] at hc9; omega
    refine h.run (lv' := [(0, .inr (.ref u)), (1, .inl b)]) (st' := []) (w' := [(u, .inr (3, [.inr (.ref ur), .inl (n + 1)])), (ur, .inl (4112, va_up f n b))]) (ob := [u = u ∧ kFld ROU 9 3 0, u = u ∧ kFld ROU 15 3 1, ur = ur ∧ n < 4112 ∧ 4112 < 2147483648, u = u ∧ kFld ROU 15 3 1, u = u ∧ ∃ ty, kPutW false ROU 15 3 1 ty ∧ narrow ty (dV (.inl (n + 1))) = dV (.inl (n + 1)) ∧ fits ty (dV (.inl (n + 1))) = true]) [(.aload_n 0, []), (.getfield 9, [0, 0]), (.aload_n 0, []), (.getfield 15, [0, 1]), (.iload_n 1, []), (.iastore, [1]), (.aload_n 0, []), (.dup, []), (.getfield 15, [0, 1]), (.iconst 1, []), (.iadd, []), (.putfield 15, [0, 1])] (by decide +kernel) rfl rfl (sAc ⟨rfl, kf_OU_9_3⟩ (sAc ⟨rfl, kf_OU_15_3⟩ (sAc ⟨rfl, by omega, by omega⟩ (sAc ⟨rfl, kf_OU_15_3⟩ (sA1 ⟨rfl, _, kp_OU_15_3_f, rfl, rfl⟩))))) ?_
    exact h.vret (by decide +kernel) ⟨rfl, rfl⟩ (by decide) (by decide)
theorem m_OU_addFirst (l : Launch) (u : Nat) (ur : Nat) (n : Nat) (a : Nat) (N : Nat) (k : Nat) (f : Nat → Nat) (s : Nat → Nat) (hn : n + k ≤ 4112) (hk : k ≤ N) (hN : N < 2147483648) : kMet l y_OU_addFirst c_OU_addFirst 4 none ⟨1, 0, 0, 21⟩ [.inr (.ref u), .inr (.ref a), .inl k] [(u, .inr (3, [.inr (.ref ur), .inl n])), (ur, .inl (4112, f)), (a, .inl (N, s))] (fun r_ w_ => r_ = none ∧ w_ = [(u, .inr (3, [.inr (.ref ur), .inl (n + k)])), (ur, .inl (4112, sSg s f n k)), (a, .inl (N, s))]) := by
  refine kmet_of (lv0 := [(0, .inr (.ref u)), (1, .inr (.ref a)), (2, .inl k)]) false (by decide) (by decide) (Nat.le_of_ble_eq_true rfl) rfl ?_
  intro G h
  refine h.run (lv' := [(3, .inl 0), (0, .inr (.ref u)), (1, .inr (.ref a)), (2, .inl k)]) (st' := []) (w' := [(u, .inr (3, [.inr (.ref ur), .inl n])), (ur, .inl (4112, f)), (a, .inl (N, s))]) (ob := []) [(.iconst 0, []), (.istore_n 3, [])] (by decide +kernel) rfl rfl trivial ?_
  refine h.subL (lv' := [(0, .inr (.ref u)), (1, .inr (.ref a)), (2, .inl k), (3, .inl 0)]) [1, 2, 3, 0] rfl ?_
  refine h.ext 1 (w' := [(u, .inr (3, [.inr (.ref ur), .inl n])), (ur, .inl (4112, sSg s f n 0)), (a, .inl (N, s))]) (sSg s f n 0) rfl (fun j hj => by unfold sSg; rw [if_neg (by omega)]) rfl ?_
  have L2 : ∀ i, i ≤ k → G 2 [(0, .inr (.ref u)), (1, .inr (.ref a)), (2, .inl k), (3, .inl i)] [] [(u, .inr (3, [.inr (.ref ur), .inl (n + i)])), (ur, .inl (4112, sSg s f n i)), (a, .inl (N, s))] 0 0 := by
    refine loop_up (P := fun i => G 2 [(0, .inr (.ref u)), (1, .inr (.ref a)), (2, .inl k), (3, .inl i)] [] [(u, .inr (3, [.inr (.ref ur), .inl (n + i)])), (ur, .inl (4112, sSg s f n i)), (a, .inl (N, s))] 0 0) k (fun i hi_i ih_i => ?_)
    show G 2 [(0, .inr (.ref u)), (1, .inr (.ref a)), (2, .inl k), (3, .inl i)] [] [(u, .inr (3, [.inr (.ref ur), .inl (n + i)])), (ur, .inl (4112, sSg s f n i)), (a, .inl (N, s))] 0 0
    refine h.run (lv' := [(0, .inr (.ref u)), (1, .inr (.ref a)), (2, .inl k), (3, .inl i)]) (st' := [.inl k, .inl i]) (w' := [(u, .inr (3, [.inr (.ref ur), .inl (n + i)])), (ur, .inl (4112, sSg s f n i)), (a, .inl (N, s))]) (ob := []) [(.iload_n 3, []), (.iload_n 2, [])] (by decide +kernel) rfl rfl trivial ?_
    refine h.icmpN (pc2 := 20) (cd := .ge) (off := 16) (by decide +kernel) (by decide) (by omega) (by omega) (fun hc4 => ?_) (fun hc4 => ?_)
    · have hc4 : k ≤ i := hc4
      have hE_i : k = i := by omega
      subst hE_i
      exact h.vret (by decide +kernel) ⟨rfl, rfl⟩ (by decide) (by decide)
    · have hc4 : i < k := by simp only [sCmpN] at hc4; omega
      refine h.run (lv' := [(0, .inr (.ref u)), (1, .inr (.ref a)), (2, .inl k), (3, .inl i)]) (st' := [.inl (s i), .inr (.ref u)]) (w' := [(u, .inr (3, [.inr (.ref ur), .inl (n + i)])), (ur, .inl (4112, sSg s f n i)), (a, .inl (N, s))]) (ob := [a = a ∧ i < N ∧ N < 2147483648]) [(.aload_n 0, []), (.aload_n 1, []), (.iload_n 3, []), (.iaload, [2])] (by decide +kernel) rfl rfl (sA1 ⟨rfl, by omega, by omega⟩) ?_
      refine h.callVD 0 (r0 := none) (wc' := [(u, .inr (3, [.inr (.ref ur), .inl ((n + i) + 1)])), (ur, .inl (4112, va_up (sSg s f n i) (n + i) (s i)))]) (w2 := [(u, .inr (3, [.inr (.ref ur), .inl ((n + i) + 1)])), (ur, .inl (4112, va_up (sSg s f n i) (n + i) (s i))), (a, .inl (N, s))]) (wr := [(a, .inl (N, s))]) (rest := []) (m_OU_add l u ur (n + i) (s i) (sSg s f n i) (by omega)) rfl rfl (by decide +kernel) kl_OU_19_OU kq_OU_add ka_OU_add ⟨by decide, by decide⟩ ⟨by decide, by decide⟩ rfl (Nat.le_of_ble_eq_true rfl) [0, 1] [2] [1, 2, 0] rfl rfl rfl rfl (by decide) rfl rfl ?_
      show G 14 [(0, .inr (.ref u)), (1, .inr (.ref a)), (2, .inl k), (3, .inl i)] [] [(u, .inr (3, [.inr (.ref ur), .inl ((n + i) + 1)])), (ur, .inl (4112, va_up (sSg s f n i) (n + i) (s i))), (a, .inl (N, s))] 0 0
      refine h.run (lv' := [(3, .inl (i + 1)), (0, .inr (.ref u)), (1, .inr (.ref a)), (2, .inl k)]) (st' := []) (w' := [(u, .inr (3, [.inr (.ref ur), .inl ((n + i) + 1)])), (ur, .inl (4112, va_up (sSg s f n i) (n + i) (s i))), (a, .inl (N, s))]) (ob := []) [(.iinc 3 1, [])] (by decide +kernel) rfl rfl trivial ?_
      refine h.goto (pc2 := 2) (off := -15) (by decide +kernel) (by decide) ?_
      refine h.subL (lv' := [(0, .inr (.ref u)), (1, .inr (.ref a)), (2, .inl k), (3, .inl (i + 1))]) [1, 2, 3, 0] rfl ?_
      refine h.ext 1 (w' := [(u, .inr (3, [.inr (.ref ur), .inl ((n + i) + 1)])), (ur, .inl (4112, sSg s f n (i + 1))), (a, .inl (N, s))]) (sSg s f n (i + 1)) rfl (fun j hj => sSg_up rfl rfl j) rfl ?_
      exact ih_i (by omega)
  exact L2 0 (by omega)
