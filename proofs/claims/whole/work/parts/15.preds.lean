theorem m_X_isByte_t (l : Launch) (a : Nat) (ha : a < 256) : kMet l y_X_isByte c_X_isByte 1 (some .boolean) ⟨0, 0, 0, 0⟩ [.inl a] [] (fun r_ w_ => r_ = some (.inl 1) ∧ w_ = []) := by
  refine kmet_of (lv0 := [(0, .inl a)]) false (by decide) (by decide) (Nat.le_of_ble_eq_true rfl) rfl ?_
  intro G h
  refine h.run (lv' := [(0, .inl a)]) (st' := [.inl a]) (w' := []) (ob := []) [(.iload_n 0, [])] (by decide +kernel) rfl rfl trivial ?_
  refine h.ifcN (pc2 := 15) (cd := .lt) (off := 14) (by decide +kernel) (by decide) (by omega) (fun hc1 => ?_) (fun hc1 => ?_)
  · have hc1 : a < 0 := hc1
    exact absurd hc1 (by omega)
  · have hc1 : 0 ≤ a := by simp only [sCmpN] at hc1; omega
    refine h.run (lv' := [(0, .inl a)]) (st' := [.inl 255, .inl a]) (w' := []) (ob := []) [(.iload_n 0, []), (.sipush 255, [])] (by decide +kernel) rfl rfl trivial ?_
    refine h.icmpN (pc2 := 15) (cd := .gt) (off := 7) (by decide +kernel) (by decide) (by omega) (by omega) (fun hc8 => ?_) (fun hc8 => ?_)
    · have hc8 : 255 < a := hc8
      exact absurd hc8 (by omega)
    · have hc8 : a ≤ 255 := by simp only [sCmpN] at hc8; omega
      refine h.run (lv' := [(0, .inl a)]) (st' := [.inl 1]) (w' := []) (ob := []) [(.iconst 1, [])] (by decide +kernel) rfl rfl trivial ?_
      refine h.goto (pc2 := 16) (off := 4) (by decide +kernel) (by decide) ?_
      exact h.zret (by decide) (by decide +kernel) ⟨rfl, rfl⟩ (by decide) (by decide)
theorem m_X_isByte_f (l : Launch) (x : Int32) (hx : x < 0 ∨ nI 255 < x) : kMet l y_X_isByte c_X_isByte 1 (some .boolean) ⟨0, 0, 0, 0⟩ [.inr (.int x)] [] (fun r_ w_ => r_ = some (.inl 0) ∧ w_ = []) := by
  refine kmet_of (lv0 := [(0, .inr (.int x))]) false (by decide) (by decide) (Nat.le_of_ble_eq_true rfl) rfl ?_
  intro G h
  refine h.run (lv' := [(0, .inr (.int x))]) (st' := [.inr (.int x)]) (w' := []) (ob := []) [(.iload_n 0, [])] (by decide +kernel) rfl rfl trivial ?_
  refine h.ifc (pc2 := 15) (cd := .lt) (off := 14) (by decide +kernel) (by decide) rfl (fun hc1 => ?_) (fun hc1 => ?_)
  · have hc1 : x < 0 := hc1
    refine h.run (lv' := [(0, .inr (.int x))]) (st' := [.inl 0]) (w' := []) (ob := []) [(.iconst 0, [])] (by decide +kernel) rfl rfl trivial ?_
    exact h.zret (by decide) (by decide +kernel) ⟨rfl, rfl⟩ (by decide) (by decide)
  · have hc1 : ¬ (x < 0) := hc1
    refine h.run (lv' := [(0, .inr (.int x))]) (st' := [.inl 255, .inr (.int x)]) (w' := []) (ob := []) [(.iload_n 0, []), (.sipush 255, [])] (by decide +kernel) rfl rfl trivial ?_
    refine h.icmp (pc2 := 15) (cd := .gt) (off := 7) (by decide +kernel) (by decide) rfl rfl (fun hc8 => ?_) (fun hc8 => ?_)
    · have hc8 : nI 255 < x := hc8
      refine h.run (lv' := [(0, .inr (.int x))]) (st' := [.inl 0]) (w' := []) (ob := []) [(.iconst 0, [])] (by decide +kernel) rfl rfl trivial ?_
      exact h.zret (by decide) (by decide +kernel) ⟨rfl, rfl⟩ (by decide) (by decide)
    · have hc8 : ¬ (nI 255 < x) := hc8
      exact (hx.elim hc1 hc8).elim
theorem m_X_isKeySize_t (l : Launch) (w : Nat) (hw : w = 4 ∨ w = 6 ∨ w = 8) : kMet l y_X_isKeySize c_X_isKeySize 1 (some .boolean) ⟨0, 0, 0, 0⟩ [.inl w] [] (fun r_ w_ => r_ = some (.inl 1) ∧ w_ = []) := by
  refine kmet_of (lv0 := [(0, .inl w)]) false (by decide) (by decide) (Nat.le_of_ble_eq_true rfl) rfl ?_
  intro G h
  refine h.run (lv' := [(0, .inl w)]) (st' := [.inl 4, .inl w]) (w' := []) (ob := []) [(.iload_n 0, []), (.iconst 4, [])] (by decide +kernel) rfl rfl trivial ?_
  refine h.icmpN (pc2 := 17) (cd := .eq) (off := 15) (by decide +kernel) (by decide) (by omega) (by omega) (fun hc2 => ?_) (fun hc2 => ?_)
  · have hc2 : w = 4 := hc2
    refine h.run (lv' := [(0, .inl w)]) (st' := [.inl 1]) (w' := []) (ob := []) [(.iconst 1, [])] (by decide +kernel) rfl rfl trivial ?_
    refine h.goto (pc2 := 22) (off := 4) (by decide +kernel) (by decide) ?_
    exact h.zret (by decide) (by decide +kernel) ⟨rfl, rfl⟩ (by decide) (by decide)
  · have hc2 : ¬ w = 4 := by simp only [sCmpN] at hc2; omega
    refine h.run (lv' := [(0, .inl w)]) (st' := [.inl 6, .inl w]) (w' := []) (ob := []) [(.iload_n 0, []), (.bipush 6, [])] (by decide +kernel) rfl rfl trivial ?_
    refine h.icmpN (pc2 := 17) (cd := .eq) (off := 9) (by decide +kernel) (by decide) (by omega) (by omega) (fun hc8 => ?_) (fun hc8 => ?_)
    · have hc8 : w = 6 := hc8
      refine h.run (lv' := [(0, .inl w)]) (st' := [.inl 1]) (w' := []) (ob := []) [(.iconst 1, [])] (by decide +kernel) rfl rfl trivial ?_
      refine h.goto (pc2 := 22) (off := 4) (by decide +kernel) (by decide) ?_
      exact h.zret (by decide) (by decide +kernel) ⟨rfl, rfl⟩ (by decide) (by decide)
    · have hc8 : ¬ w = 6 := by simp only [sCmpN] at hc8; omega
      refine h.run (lv' := [(0, .inl w)]) (st' := [.inl 8, .inl w]) (w' := []) (ob := []) [(.iload_n 0, []), (.bipush 8, [])] (by decide +kernel) rfl rfl trivial ?_
      refine h.icmpN (pc2 := 21) (cd := .ne) (off := 7) (by decide +kernel) (by decide) (by omega) (by omega) (fun hc14 => ?_) (fun hc14 => ?_)
      · have hc14 : ¬ w = 8 := hc14
        exact absurd hc14 (by omega)
      · have hc14 : w = 8 := by simp only [sCmpN] at hc14; omega
        refine h.run (lv' := [(0, .inl w)]) (st' := [.inl 1]) (w' := []) (ob := []) [(.iconst 1, [])] (by decide +kernel) rfl rfl trivial ?_
        refine h.goto (pc2 := 22) (off := 4) (by decide +kernel) (by decide) ?_
        exact h.zret (by decide) (by decide +kernel) ⟨rfl, rfl⟩ (by decide) (by decide)
theorem m_X_isKeySize_f (l : Launch) (x : Int32) (hx : ¬ x = nI 4 ∧ ¬ x = nI 6 ∧ ¬ x = nI 8) : kMet l y_X_isKeySize c_X_isKeySize 1 (some .boolean) ⟨0, 0, 0, 0⟩ [.inr (.int x)] [] (fun r_ w_ => r_ = some (.inl 0) ∧ w_ = []) := by
  refine kmet_of (lv0 := [(0, .inr (.int x))]) false (by decide) (by decide) (Nat.le_of_ble_eq_true rfl) rfl ?_
  intro G h
  refine h.run (lv' := [(0, .inr (.int x))]) (st' := [.inl 4, .inr (.int x)]) (w' := []) (ob := []) [(.iload_n 0, []), (.iconst 4, [])] (by decide +kernel) rfl rfl trivial ?_
  refine h.icmp (pc2 := 17) (cd := .eq) (off := 15) (by decide +kernel) (by decide) rfl rfl (fun hc2 => ?_) (fun hc2 => ?_)
  · have hc2 : x = nI 4 := hc2
    exact (hx.1 hc2).elim
  · have hc2 : ¬ (x = nI 4) := hc2
    refine h.run (lv' := [(0, .inr (.int x))]) (st' := [.inl 6, .inr (.int x)]) (w' := []) (ob := []) [(.iload_n 0, []), (.bipush 6, [])] (by decide +kernel) rfl rfl trivial ?_
    refine h.icmp (pc2 := 17) (cd := .eq) (off := 9) (by decide +kernel) (by decide) rfl rfl (fun hc8 => ?_) (fun hc8 => ?_)
    · have hc8 : x = nI 6 := hc8
      exact (hx.2.1 hc8).elim
    · have hc8 : ¬ (x = nI 6) := hc8
      refine h.run (lv' := [(0, .inr (.int x))]) (st' := [.inl 8, .inr (.int x)]) (w' := []) (ob := []) [(.iload_n 0, []), (.bipush 8, [])] (by decide +kernel) rfl rfl trivial ?_
      refine h.icmp (pc2 := 21) (cd := .ne) (off := 7) (by decide +kernel) (by decide) rfl rfl (fun hc14 => ?_) (fun hc14 => ?_)
      · have hc14 : ¬ x = nI 8 := hc14
        refine h.run (lv' := [(0, .inr (.int x))]) (st' := [.inl 0]) (w' := []) (ob := []) [(.iconst 0, [])] (by decide +kernel) rfl rfl trivial ?_
        exact h.zret (by decide) (by decide +kernel) ⟨rfl, rfl⟩ (by decide) (by decide)
      · have hc14 : ¬ (¬ x = nI 8) := hc14
        exact (hc14 hx.2.2).elim
theorem m_M_isByte_t (l : Launch) (a : Nat) (ha : a < 256) : kMet l y_M_isByte c_M_isByte 1 (some .boolean) ⟨0, 0, 0, 0⟩ [.inl a] [] (fun r_ w_ => r_ = some (.inl 1) ∧ w_ = []) := by
  refine kmet_of (lv0 := [(0, .inl a)]) false (by decide) (by decide) (Nat.le_of_ble_eq_true rfl) rfl ?_
  intro G h
  refine h.run (lv' := [(0, .inl a)]) (st' := [.inl a]) (w' := []) (ob := []) [(.iload_n 0, [])] (by decide +kernel) rfl rfl trivial ?_
  refine h.ifcN (pc2 := 15) (cd := .lt) (off := 14) (by decide +kernel) (by decide) (by omega) (fun hc1 => ?_) (fun hc1 => ?_)
  · have hc1 : a < 0 := hc1
    exact absurd hc1 (by omega)
  · have hc1 : 0 ≤ a := by simp only [sCmpN] at hc1; omega
    refine h.run (lv' := [(0, .inl a)]) (st' := [.inl 256, .inl a]) (w' := []) (ob := []) [(.iload_n 0, []), (.sipush 256, [])] (by decide +kernel) rfl rfl trivial ?_
    refine h.icmpN (pc2 := 15) (cd := .ge) (off := 7) (by decide +kernel) (by decide) (by omega) (by omega) (fun hc8 => ?_) (fun hc8 => ?_)
    · have hc8 : 256 ≤ a := hc8
      exact absurd hc8 (by omega)
    · have hc8 : a < 256 := by simp only [sCmpN] at hc8; omega
      refine h.run (lv' := [(0, .inl a)]) (st' := [.inl 1]) (w' := []) (ob := []) [(.iconst 1, [])] (by decide +kernel) rfl rfl trivial ?_
      refine h.goto (pc2 := 16) (off := 4) (by decide +kernel) (by decide) ?_
      exact h.zret (by decide) (by decide +kernel) ⟨rfl, rfl⟩ (by decide) (by decide)
theorem m_M_isByte_f (l : Launch) (x : Int32) (hx : x < 0 ∨ nI 256 ≤ x) : kMet l y_M_isByte c_M_isByte 1 (some .boolean) ⟨0, 0, 0, 0⟩ [.inr (.int x)] [] (fun r_ w_ => r_ = some (.inl 0) ∧ w_ = []) := by
  refine kmet_of (lv0 := [(0, .inr (.int x))]) false (by decide) (by decide) (Nat.le_of_ble_eq_true rfl) rfl ?_
  intro G h
  refine h.run (lv' := [(0, .inr (.int x))]) (st' := [.inr (.int x)]) (w' := []) (ob := []) [(.iload_n 0, [])] (by decide +kernel) rfl rfl trivial ?_
  refine h.ifc (pc2 := 15) (cd := .lt) (off := 14) (by decide +kernel) (by decide) rfl (fun hc1 => ?_) (fun hc1 => ?_)
  · have hc1 : x < 0 := hc1
    refine h.run (lv' := [(0, .inr (.int x))]) (st' := [.inl 0]) (w' := []) (ob := []) [(.iconst 0, [])] (by decide +kernel) rfl rfl trivial ?_
    exact h.zret (by decide) (by decide +kernel) ⟨rfl, rfl⟩ (by decide) (by decide)
  · have hc1 : ¬ (x < 0) := hc1
    refine h.run (lv' := [(0, .inr (.int x))]) (st' := [.inl 256, .inr (.int x)]) (w' := []) (ob := []) [(.iload_n 0, []), (.sipush 256, [])] (by decide +kernel) rfl rfl trivial ?_
    refine h.icmp (pc2 := 15) (cd := .ge) (off := 7) (by decide +kernel) (by decide) rfl rfl (fun hc8 => ?_) (fun hc8 => ?_)
    · have hc8 : nI 256 ≤ x := hc8
      refine h.run (lv' := [(0, .inr (.int x))]) (st' := [.inl 0]) (w' := []) (ob := []) [(.iconst 0, [])] (by decide +kernel) rfl rfl trivial ?_
      exact h.zret (by decide) (by decide +kernel) ⟨rfl, rfl⟩ (by decide) (by decide)
    · have hc8 : ¬ (nI 256 ≤ x) := hc8
      exact (hx.elim hc1 hc8).elim
theorem m_M_isKey_t (l : Launch) (w : Nat) (hw : w = 4 ∨ w = 6 ∨ w = 8) : kMet l y_M_isKey c_M_isKey 1 (some .boolean) ⟨0, 0, 0, 0⟩ [.inl w] [] (fun r_ w_ => r_ = some (.inl 1) ∧ w_ = []) := by
  refine kmet_of (lv0 := [(0, .inl w)]) false (by decide) (by decide) (Nat.le_of_ble_eq_true rfl) rfl ?_
  intro G h
  refine h.run (lv' := [(0, .inl w)]) (st' := [.inl 4, .inl w]) (w' := []) (ob := []) [(.iload_n 0, []), (.iconst 4, [])] (by decide +kernel) rfl rfl trivial ?_
  refine h.icmpN (pc2 := 17) (cd := .eq) (off := 15) (by decide +kernel) (by decide) (by omega) (by omega) (fun hc2 => ?_) (fun hc2 => ?_)
  · have hc2 : w = 4 := hc2
    refine h.run (lv' := [(0, .inl w)]) (st' := [.inl 1]) (w' := []) (ob := []) [(.iconst 1, [])] (by decide +kernel) rfl rfl trivial ?_
    refine h.goto (pc2 := 22) (off := 4) (by decide +kernel) (by decide) ?_
    exact h.zret (by decide) (by decide +kernel) ⟨rfl, rfl⟩ (by decide) (by decide)
  · have hc2 : ¬ w = 4 := by simp only [sCmpN] at hc2; omega
    refine h.run (lv' := [(0, .inl w)]) (st' := [.inl 6, .inl w]) (w' := []) (ob := []) [(.iload_n 0, []), (.bipush 6, [])] (by decide +kernel) rfl rfl trivial ?_
    refine h.icmpN (pc2 := 17) (cd := .eq) (off := 9) (by decide +kernel) (by decide) (by omega) (by omega) (fun hc8 => ?_) (fun hc8 => ?_)
    · have hc8 : w = 6 := hc8
      refine h.run (lv' := [(0, .inl w)]) (st' := [.inl 1]) (w' := []) (ob := []) [(.iconst 1, [])] (by decide +kernel) rfl rfl trivial ?_
      refine h.goto (pc2 := 22) (off := 4) (by decide +kernel) (by decide) ?_
      exact h.zret (by decide) (by decide +kernel) ⟨rfl, rfl⟩ (by decide) (by decide)
    · have hc8 : ¬ w = 6 := by simp only [sCmpN] at hc8; omega
      refine h.run (lv' := [(0, .inl w)]) (st' := [.inl 8, .inl w]) (w' := []) (ob := []) [(.iload_n 0, []), (.bipush 8, [])] (by decide +kernel) rfl rfl trivial ?_
      refine h.icmpN (pc2 := 21) (cd := .ne) (off := 7) (by decide +kernel) (by decide) (by omega) (by omega) (fun hc14 => ?_) (fun hc14 => ?_)
      · have hc14 : ¬ w = 8 := hc14
        exact absurd hc14 (by omega)
      · have hc14 : w = 8 := by simp only [sCmpN] at hc14; omega
        refine h.run (lv' := [(0, .inl w)]) (st' := [.inl 1]) (w' := []) (ob := []) [(.iconst 1, [])] (by decide +kernel) rfl rfl trivial ?_
        refine h.goto (pc2 := 22) (off := 4) (by decide +kernel) (by decide) ?_
        exact h.zret (by decide) (by decide +kernel) ⟨rfl, rfl⟩ (by decide) (by decide)
theorem m_M_isKey_f (l : Launch) (x : Int32) (hx : ¬ x = nI 4 ∧ ¬ x = nI 6 ∧ ¬ x = nI 8) : kMet l y_M_isKey c_M_isKey 1 (some .boolean) ⟨0, 0, 0, 0⟩ [.inr (.int x)] [] (fun r_ w_ => r_ = some (.inl 0) ∧ w_ = []) := by
  refine kmet_of (lv0 := [(0, .inr (.int x))]) false (by decide) (by decide) (Nat.le_of_ble_eq_true rfl) rfl ?_
  intro G h
  refine h.run (lv' := [(0, .inr (.int x))]) (st' := [.inl 4, .inr (.int x)]) (w' := []) (ob := []) [(.iload_n 0, []), (.iconst 4, [])] (by decide +kernel) rfl rfl trivial ?_
  refine h.icmp (pc2 := 17) (cd := .eq) (off := 15) (by decide +kernel) (by decide) rfl rfl (fun hc2 => ?_) (fun hc2 => ?_)
  · have hc2 : x = nI 4 := hc2
    exact (hx.1 hc2).elim
  · have hc2 : ¬ (x = nI 4) := hc2
    refine h.run (lv' := [(0, .inr (.int x))]) (st' := [.inl 6, .inr (.int x)]) (w' := []) (ob := []) [(.iload_n 0, []), (.bipush 6, [])] (by decide +kernel) rfl rfl trivial ?_
    refine h.icmp (pc2 := 17) (cd := .eq) (off := 9) (by decide +kernel) (by decide) rfl rfl (fun hc8 => ?_) (fun hc8 => ?_)
    · have hc8 : x = nI 6 := hc8
      exact (hx.2.1 hc8).elim
    · have hc8 : ¬ (x = nI 6) := hc8
      refine h.run (lv' := [(0, .inr (.int x))]) (st' := [.inl 8, .inr (.int x)]) (w' := []) (ob := []) [(.iload_n 0, []), (.bipush 8, [])] (by decide +kernel) rfl rfl trivial ?_
      refine h.icmp (pc2 := 21) (cd := .ne) (off := 7) (by decide +kernel) (by decide) rfl rfl (fun hc14 => ?_) (fun hc14 => ?_)
      · have hc14 : ¬ x = nI 8 := hc14
        refine h.run (lv' := [(0, .inr (.int x))]) (st' := [.inl 0]) (w' := []) (ob := []) [(.iconst 0, [])] (by decide +kernel) rfl rfl trivial ?_
        exact h.zret (by decide) (by decide +kernel) ⟨rfl, rfl⟩ (by decide) (by decide)
      · have hc14 : ¬ (¬ x = nI 8) := hc14
        exact (hc14 hx.2.2).elim
theorem m_X_isDirection_t (l : Launch) (d : Nat) (hd : d < 2) : kMet l y_X_isDirection c_X_isDirection 1 (some .boolean) ⟨0, 0, 0, 0⟩ [.inl d] [] (fun r_ w_ => r_ = some (.inl 1) ∧ w_ = []) := by
  refine kmet_of (lv0 := [(0, .inl d)]) false (by decide) (by decide) (Nat.le_of_ble_eq_true rfl) rfl ?_
  intro G h
  refine h.run (lv' := [(0, .inl d)]) (st' := [.inl d]) (w' := []) (ob := []) [(.iload_n 0, [])] (by decide +kernel) rfl rfl trivial ?_
  refine h.ifcN (pc2 := 9) (cd := .eq) (off := 8) (by decide +kernel) (by decide) (by omega) (fun hc1 => ?_) (fun hc1 => ?_)
  · have hc1 : d = 0 := hc1
    refine h.run (lv' := [(0, .inl d)]) (st' := [.inl 1]) (w' := []) (ob := []) [(.iconst 1, [])] (by decide +kernel) rfl rfl trivial ?_
    refine h.goto (pc2 := 14) (off := 4) (by decide +kernel) (by decide) ?_
    exact h.zret (by decide) (by decide +kernel) ⟨rfl, rfl⟩ (by decide) (by decide)
  · have hc1 : ¬ d = 0 := by simp only [sCmpN] at hc1; omega
    refine h.run (lv' := [(0, .inl d)]) (st' := [.inl 1, .inl d]) (w' := []) (ob := []) [(.iload_n 0, []), (.iconst 1, [])] (by decide +kernel) rfl rfl trivial ?_
    refine h.icmpN (pc2 := 13) (cd := .ne) (off := 7) (by decide +kernel) (by decide) (by omega) (by omega) (fun hc6 => ?_) (fun hc6 => ?_)
    · have hc6 : ¬ d = 1 := hc6
      exact absurd hc6 (by omega)
    · have hc6 : d = 1 := by simp only [sCmpN] at hc6; omega
      refine h.run (lv' := [(0, .inl d)]) (st' := [.inl 1]) (w' := []) (ob := []) [(.iconst 1, [])] (by decide +kernel) rfl rfl trivial ?_
      refine h.goto (pc2 := 14) (off := 4) (by decide +kernel) (by decide) ?_
      exact h.zret (by decide) (by decide +kernel) ⟨rfl, rfl⟩ (by decide) (by decide)
theorem m_X_isDirection_f (l : Launch) (x : Int32) (hx : ¬ x = nI 0 ∧ ¬ x = nI 1) : kMet l y_X_isDirection c_X_isDirection 1 (some .boolean) ⟨0, 0, 0, 0⟩ [.inr (.int x)] [] (fun r_ w_ => r_ = some (.inl 0) ∧ w_ = []) := by
  refine kmet_of (lv0 := [(0, .inr (.int x))]) false (by decide) (by decide) (Nat.le_of_ble_eq_true rfl) rfl ?_
  intro G h
  refine h.run (lv' := [(0, .inr (.int x))]) (st' := [.inr (.int x)]) (w' := []) (ob := []) [(.iload_n 0, [])] (by decide +kernel) rfl rfl trivial ?_
  refine h.ifc (pc2 := 9) (cd := .eq) (off := 8) (by decide +kernel) (by decide) rfl (fun hc1 => ?_) (fun hc1 => ?_)
  · have hc1 : x = 0 := hc1
    exact (hx.1 hc1).elim
  · have hc1 : ¬ (x = 0) := hc1
    refine h.run (lv' := [(0, .inr (.int x))]) (st' := [.inl 1, .inr (.int x)]) (w' := []) (ob := []) [(.iload_n 0, []), (.iconst 1, [])] (by decide +kernel) rfl rfl trivial ?_
    refine h.icmp (pc2 := 13) (cd := .ne) (off := 7) (by decide +kernel) (by decide) rfl rfl (fun hc6 => ?_) (fun hc6 => ?_)
    · have hc6 : ¬ x = nI 1 := hc6
      refine h.run (lv' := [(0, .inr (.int x))]) (st' := [.inl 0]) (w' := []) (ob := []) [(.iconst 0, [])] (by decide +kernel) rfl rfl trivial ?_
      exact h.zret (by decide) (by decide +kernel) ⟨rfl, rfl⟩ (by decide) (by decide)
    · have hc6 : ¬ (¬ x = nI 1) := hc6
      exact (hc6 hx.2).elim
