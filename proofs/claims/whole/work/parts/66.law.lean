set_option maxHeartbeats 1000000 in
theorem L_key {l : Launch} {b L : Nat} {xs : Nat → Int32} {G : kT} {A B : Nat → Nat} {i : Nat} {w : sW} (hh : kRL l b L xs G) (hL : L < 2147483648) (hi : i + 4 ≤ L) (hI : Inv A B w) (next : ∀ w', Inv A B w' → G 462 [(3, .inl i), (2, .inr (.ref (B 0))), (1, .inr (.ref (A 0))), (0, .inr (.ref b))] [] w' 51 19279) : G 84 [(3, .inl i), (2, .inr (.ref (B 0))), (1, .inr (.ref (A 0))), (0, .inr (.ref b))] [] w 51 19279 := by
  have h := hh.toR
  refine h.run (pc2 := 89) (lv' := [(3, .inl i), (2, .inr (.ref (B 0))), (1, .inr (.ref (A 0))), (0, .inr (.ref b))]) (st' := [.inl (i + 1), .inr (.ref b), .inr (.ref (A 0))]) (w' := w) (ob := []) [(.aload_n 1, []), (.aload_n 0, []), (.iload_n 3, []), (.iconst 1, []), (.iadd, [])] (by decide +kernel) rfl rfl trivial ?_
  refine hh.sld (by omega) hL (by decide +kernel) ?_
  refine h.run (pc2 := 94) (lv' := [(3, .inl i), (2, .inr (.ref (B 0))), (1, .inr (.ref (A 0))), (0, .inr (.ref b))]) (st' := [.inl (i + 2), .inr (.ref b), .inr (.int (xs (i + 1))), .inr (.ref (A 0))]) (w' := w) (ob := []) [(.aload_n 0, []), (.iload_n 3, []), (.iconst 2, []), (.iadd, [])] (by decide +kernel) rfl rfl trivial ?_
  refine hh.sld (by omega) hL (by decide +kernel) ?_
  refine h.run (pc2 := 103) (lv' := [(3, .inl i), (2, .inr (.ref (B 0))), (1, .inr (.ref (A 0))), (0, .inr (.ref b))]) (st' := [.inl (i + 3), .inr (.ref b), .inr (.long (((xs (i + 2)).toInt64) <<< ((nI 32).toInt64 &&& 63))), .inr (.int (xs (i + 1))), .inr (.ref (A 0))]) (w' := w) (ob := []) [(.i2l, []), (.bipush 32, []), (.lshl, []), (.aload_n 0, []), (.iload_n 3, []), (.iconst 3, []), (.iadd, [])] (by decide +kernel) rfl rfl trivial ?_
  refine hh.sld (by omega) hL (by decide +kernel) ?_
  refine h.run (pc2 := 110) (lv' := [(3, .inl i), (2, .inr (.ref (B 0))), (1, .inr (.ref (A 0))), (0, .inr (.ref b))]) (st' := [.inr (.long ((((xs (i + 2)).toInt64) <<< ((nI 32).toInt64 &&& 63)) ||| (((xs (i + 3)).toInt64) &&& (lN 4294967295)))), .inr (.int (xs (i + 1))), .inr (.ref (A 0))]) (w' := w) (ob := [Cond.constantLong RL 13 (lN 4294967295) ∈ kWS]) [(.i2l, []), (.ldc2_w 13, [4294967295]), (.land, []), (.lor, [])] (by decide +kernel) rfl rfl (sA1 (kc_L_13)) ?_
  obtain ⟨wX, wM, PX, PM, rfl, hX, hM, h1, hJ⟩ := P_key (l := l) hI (xs (i + 1)) ((((xs (i + 2)).toInt64) <<< ((nI 32).toInt64 &&& 63)) ||| (((xs (i + 3)).toInt64) &&& (lN 4294967295)))
  refine h.callB (as := [.inr (.int (xs (i + 1))), .inr (.long ((((xs (i + 2)).toInt64) <<< ((nI 32).toInt64 &&& 63)) ||| (((xs (i + 3)).toInt64) &&& (lN 4294967295))))]) (rest := []) (hX.left wM) rfl (by decide +kernel) kl_L_15_X kq_X_key ka_X_key ⟨by decide, by decide⟩ ⟨by decide, by decide⟩ rfl (Nat.le_of_ble_eq_true rfl) (fun r_ w_ hp_ => ?_)
  obtain ⟨v1, hp1, rfl⟩ := hp_
  obtain ⟨va, xa, rfl, hxa⟩ := h1 _ _ hp1
  show G 113 [(3, .inl i), (2, .inr (.ref (B 0))), (1, .inr (.ref (A 0))), (0, .inr (.ref b))] [va] (v1 ++ wM) 51 19279
  refine h.run (pc2 := 118) (lv' := [(3, .inl i), (2, .inr (.ref (B 0))), (1, .inr (.ref (A 0))), (0, .inr (.ref b))]) (st' := [.inl (i + 1), .inr (.ref b), .inr (.ref (B 0)), va]) (w' := (v1 ++ wM)) (ob := []) [(.aload_n 2, []), (.aload_n 0, []), (.iload_n 3, []), (.iconst 1, []), (.iadd, [])] (by decide +kernel) rfl rfl trivial ?_
  refine hh.sld (by omega) hL (by decide +kernel) ?_
  refine h.run (pc2 := 123) (lv' := [(3, .inl i), (2, .inr (.ref (B 0))), (1, .inr (.ref (A 0))), (0, .inr (.ref b))]) (st' := [.inl (i + 2), .inr (.ref b), .inr (.int (xs (i + 1))), .inr (.ref (B 0)), va]) (w' := (v1 ++ wM)) (ob := []) [(.aload_n 0, []), (.iload_n 3, []), (.iconst 2, []), (.iadd, [])] (by decide +kernel) rfl rfl trivial ?_
  refine hh.sld (by omega) hL (by decide +kernel) ?_
  refine h.run (pc2 := 132) (lv' := [(3, .inl i), (2, .inr (.ref (B 0))), (1, .inr (.ref (A 0))), (0, .inr (.ref b))]) (st' := [.inl (i + 3), .inr (.ref b), .inr (.long (((xs (i + 2)).toInt64) <<< ((nI 32).toInt64 &&& 63))), .inr (.int (xs (i + 1))), .inr (.ref (B 0)), va]) (w' := (v1 ++ wM)) (ob := []) [(.i2l, []), (.bipush 32, []), (.lshl, []), (.aload_n 0, []), (.iload_n 3, []), (.iconst 3, []), (.iadd, [])] (by decide +kernel) rfl rfl trivial ?_
  refine hh.sld (by omega) hL (by decide +kernel) ?_
  refine h.run (pc2 := 139) (lv' := [(3, .inl i), (2, .inr (.ref (B 0))), (1, .inr (.ref (A 0))), (0, .inr (.ref b))]) (st' := [.inr (.long ((((xs (i + 2)).toInt64) <<< ((nI 32).toInt64 &&& 63)) ||| (((xs (i + 3)).toInt64) &&& (lN 4294967295)))), .inr (.int (xs (i + 1))), .inr (.ref (B 0)), va]) (w' := (v1 ++ wM)) (ob := [Cond.constantLong RL 13 (lN 4294967295) ∈ kWS]) [(.i2l, []), (.ldc2_w 13, [4294967295]), (.land, []), (.lor, [])] (by decide +kernel) rfl rfl (sA1 (kc_L_13)) ?_
  refine h.callB (as := [.inr (.int (xs (i + 1))), .inr (.long ((((xs (i + 2)).toInt64) <<< ((nI 32).toInt64 &&& 63)) ||| (((xs (i + 3)).toInt64) &&& (lN 4294967295))))]) (rest := [va]) (hM.right v1) rfl (by decide +kernel) kl_L_19_M kq_M_key ka_M_key ⟨by decide, by decide⟩ ⟨by decide, by decide⟩ rfl (cat_I hxa) (fun r_ w_ hp_ => ?_)
  obtain ⟨v2, hp2, rfl⟩ := hp_
  obtain ⟨hsame, w0, hx0, hI0⟩ := hJ _ _ _ _ hp1 hp2
  obtain ⟨a_, vb, x_, e1, rfl, e3, e4⟩ := hsame
  cases e1
  show G 142 [(3, .inl i), (2, .inr (.ref (B 0))), (1, .inr (.ref (A 0))), (0, .inr (.ref b))] [vb, va] (v1 ++ v2) 51 19279
  refine h.icmp (pc2 := 462) (cd := .eq) (off := 320) (by decide +kernel) (by decide) e3 e4 (fun _ => ?_) (fun hc => absurd rfl hc)
  exact hx0 _ _ _ _ _ _ _ _ h _ _ _ _ _ (next w0 hI0)
set_option maxHeartbeats 1000000 in
theorem L_initial {l : Launch} {b L : Nat} {xs : Nat → Int32} {G : kT} {A B : Nat → Nat} {i : Nat} {w : sW} (hh : kRL l b L xs G) (hL : L < 2147483648) (hi : i + 4 ≤ L) (hI : Inv A B w) (next : ∀ w', Inv A B w' → G 462 [(3, .inl i), (2, .inr (.ref (B 0))), (1, .inr (.ref (A 0))), (0, .inr (.ref b))] [] w' 51 19279) : G 147 [(3, .inl i), (2, .inr (.ref (B 0))), (1, .inr (.ref (A 0))), (0, .inr (.ref b))] [] w 51 19279 := by
  have h := hh.toR
  refine h.run (pc2 := 152) (lv' := [(3, .inl i), (2, .inr (.ref (B 0))), (1, .inr (.ref (A 0))), (0, .inr (.ref b))]) (st' := [.inl (i + 1), .inr (.ref b), .inr (.ref (A 0))]) (w' := w) (ob := []) [(.aload_n 1, []), (.aload_n 0, []), (.iload_n 3, []), (.iconst 1, []), (.iadd, [])] (by decide +kernel) rfl rfl trivial ?_
  refine hh.sld (by omega) hL (by decide +kernel) ?_
  refine h.run (pc2 := 157) (lv' := [(3, .inl i), (2, .inr (.ref (B 0))), (1, .inr (.ref (A 0))), (0, .inr (.ref b))]) (st' := [.inl (i + 2), .inr (.ref b), .inr (.int (xs (i + 1))), .inr (.ref (A 0))]) (w' := w) (ob := []) [(.aload_n 0, []), (.iload_n 3, []), (.iconst 2, []), (.iadd, [])] (by decide +kernel) rfl rfl trivial ?_
  refine hh.sld (by omega) hL (by decide +kernel) ?_
  refine h.run (pc2 := 166) (lv' := [(3, .inl i), (2, .inr (.ref (B 0))), (1, .inr (.ref (A 0))), (0, .inr (.ref b))]) (st' := [.inl (i + 3), .inr (.ref b), .inr (.long (((xs (i + 2)).toInt64) <<< ((nI 32).toInt64 &&& 63))), .inr (.int (xs (i + 1))), .inr (.ref (A 0))]) (w' := w) (ob := []) [(.i2l, []), (.bipush 32, []), (.lshl, []), (.aload_n 0, []), (.iload_n 3, []), (.iconst 3, []), (.iadd, [])] (by decide +kernel) rfl rfl trivial ?_
  refine hh.sld (by omega) hL (by decide +kernel) ?_
  refine h.run (pc2 := 173) (lv' := [(3, .inl i), (2, .inr (.ref (B 0))), (1, .inr (.ref (A 0))), (0, .inr (.ref b))]) (st' := [.inr (.long ((((xs (i + 2)).toInt64) <<< ((nI 32).toInt64 &&& 63)) ||| (((xs (i + 3)).toInt64) &&& (lN 4294967295)))), .inr (.int (xs (i + 1))), .inr (.ref (A 0))]) (w' := w) (ob := [Cond.constantLong RL 13 (lN 4294967295) ∈ kWS]) [(.i2l, []), (.ldc2_w 13, [4294967295]), (.land, []), (.lor, [])] (by decide +kernel) rfl rfl (sA1 (kc_L_13)) ?_
  obtain ⟨wX, wM, PX, PM, rfl, hX, hM, h1, hJ⟩ := P_initial (l := l) hI (xs (i + 1)) ((((xs (i + 2)).toInt64) <<< ((nI 32).toInt64 &&& 63)) ||| (((xs (i + 3)).toInt64) &&& (lN 4294967295)))
  refine h.callB (as := [.inr (.int (xs (i + 1))), .inr (.long ((((xs (i + 2)).toInt64) <<< ((nI 32).toInt64 &&& 63)) ||| (((xs (i + 3)).toInt64) &&& (lN 4294967295))))]) (rest := []) (hX.left wM) rfl (by decide +kernel) kl_L_20_X kq_X_initial ka_X_initial ⟨by decide, by decide⟩ ⟨by decide, by decide⟩ rfl (Nat.le_of_ble_eq_true rfl) (fun r_ w_ hp_ => ?_)
  obtain ⟨v1, hp1, rfl⟩ := hp_
  obtain ⟨va, xa, rfl, hxa⟩ := h1 _ _ hp1
  show G 176 [(3, .inl i), (2, .inr (.ref (B 0))), (1, .inr (.ref (A 0))), (0, .inr (.ref b))] [va] (v1 ++ wM) 51 19279
  refine h.run (pc2 := 181) (lv' := [(3, .inl i), (2, .inr (.ref (B 0))), (1, .inr (.ref (A 0))), (0, .inr (.ref b))]) (st' := [.inl (i + 1), .inr (.ref b), .inr (.ref (B 0)), va]) (w' := (v1 ++ wM)) (ob := []) [(.aload_n 2, []), (.aload_n 0, []), (.iload_n 3, []), (.iconst 1, []), (.iadd, [])] (by decide +kernel) rfl rfl trivial ?_
  refine hh.sld (by omega) hL (by decide +kernel) ?_
  refine h.run (pc2 := 186) (lv' := [(3, .inl i), (2, .inr (.ref (B 0))), (1, .inr (.ref (A 0))), (0, .inr (.ref b))]) (st' := [.inl (i + 2), .inr (.ref b), .inr (.int (xs (i + 1))), .inr (.ref (B 0)), va]) (w' := (v1 ++ wM)) (ob := []) [(.aload_n 0, []), (.iload_n 3, []), (.iconst 2, []), (.iadd, [])] (by decide +kernel) rfl rfl trivial ?_
  refine hh.sld (by omega) hL (by decide +kernel) ?_
  refine h.run (pc2 := 195) (lv' := [(3, .inl i), (2, .inr (.ref (B 0))), (1, .inr (.ref (A 0))), (0, .inr (.ref b))]) (st' := [.inl (i + 3), .inr (.ref b), .inr (.long (((xs (i + 2)).toInt64) <<< ((nI 32).toInt64 &&& 63))), .inr (.int (xs (i + 1))), .inr (.ref (B 0)), va]) (w' := (v1 ++ wM)) (ob := []) [(.i2l, []), (.bipush 32, []), (.lshl, []), (.aload_n 0, []), (.iload_n 3, []), (.iconst 3, []), (.iadd, [])] (by decide +kernel) rfl rfl trivial ?_
  refine hh.sld (by omega) hL (by decide +kernel) ?_
  refine h.run (pc2 := 202) (lv' := [(3, .inl i), (2, .inr (.ref (B 0))), (1, .inr (.ref (A 0))), (0, .inr (.ref b))]) (st' := [.inr (.long ((((xs (i + 2)).toInt64) <<< ((nI 32).toInt64 &&& 63)) ||| (((xs (i + 3)).toInt64) &&& (lN 4294967295)))), .inr (.int (xs (i + 1))), .inr (.ref (B 0)), va]) (w' := (v1 ++ wM)) (ob := [Cond.constantLong RL 13 (lN 4294967295) ∈ kWS]) [(.i2l, []), (.ldc2_w 13, [4294967295]), (.land, []), (.lor, [])] (by decide +kernel) rfl rfl (sA1 (kc_L_13)) ?_
  refine h.callB (as := [.inr (.int (xs (i + 1))), .inr (.long ((((xs (i + 2)).toInt64) <<< ((nI 32).toInt64 &&& 63)) ||| (((xs (i + 3)).toInt64) &&& (lN 4294967295))))]) (rest := [va]) (hM.right v1) rfl (by decide +kernel) kl_L_23_M kq_M_initial ka_M_initial ⟨by decide, by decide⟩ ⟨by decide, by decide⟩ rfl (cat_I hxa) (fun r_ w_ hp_ => ?_)
  obtain ⟨v2, hp2, rfl⟩ := hp_
  obtain ⟨hsame, w0, hx0, hI0⟩ := hJ _ _ _ _ hp1 hp2
  obtain ⟨a_, vb, x_, e1, rfl, e3, e4⟩ := hsame
  cases e1
  show G 205 [(3, .inl i), (2, .inr (.ref (B 0))), (1, .inr (.ref (A 0))), (0, .inr (.ref b))] [vb, va] (v1 ++ v2) 51 19279
  refine h.icmp (pc2 := 462) (cd := .eq) (off := 257) (by decide +kernel) (by decide) e3 e4 (fun _ => ?_) (fun hc => absurd rfl hc)
  exact hx0 _ _ _ _ _ _ _ _ h _ _ _ _ _ (next w0 hI0)
set_option maxHeartbeats 1000000 in
theorem L_begin {l : Launch} {b L : Nat} {xs : Nat → Int32} {G : kT} {A B : Nat → Nat} {i : Nat} {w : sW} (hh : kRL l b L xs G) (hL : L < 2147483648) (hi : i + 4 ≤ L) (hI : Inv A B w) (next : ∀ w', Inv A B w' → G 462 [(3, .inl i), (2, .inr (.ref (B 0))), (1, .inr (.ref (A 0))), (0, .inr (.ref b))] [] w' 51 19279) : G 210 [(3, .inl i), (2, .inr (.ref (B 0))), (1, .inr (.ref (A 0))), (0, .inr (.ref b))] [] w 51 19279 := by
  have h := hh.toR
  refine h.run (pc2 := 215) (lv' := [(3, .inl i), (2, .inr (.ref (B 0))), (1, .inr (.ref (A 0))), (0, .inr (.ref b))]) (st' := [.inl (i + 1), .inr (.ref b), .inr (.ref (A 0))]) (w' := w) (ob := []) [(.aload_n 1, []), (.aload_n 0, []), (.iload_n 3, []), (.iconst 1, []), (.iadd, [])] (by decide +kernel) rfl rfl trivial ?_
  refine hh.sld (by omega) hL (by decide +kernel) ?_
  refine h.run (pc2 := 220) (lv' := [(3, .inl i), (2, .inr (.ref (B 0))), (1, .inr (.ref (A 0))), (0, .inr (.ref b))]) (st' := [.inl (i + 2), .inr (.ref b), .inr (.int (xs (i + 1))), .inr (.ref (A 0))]) (w' := w) (ob := []) [(.aload_n 0, []), (.iload_n 3, []), (.iconst 2, []), (.iadd, [])] (by decide +kernel) rfl rfl trivial ?_
  refine hh.sld (by omega) hL (by decide +kernel) ?_
  refine h.run (pc2 := 225) (lv' := [(3, .inl i), (2, .inr (.ref (B 0))), (1, .inr (.ref (A 0))), (0, .inr (.ref b))]) (st' := [.inl (i + 3), .inr (.ref b), .inr (.int (xs (i + 2))), .inr (.int (xs (i + 1))), .inr (.ref (A 0))]) (w' := w) (ob := []) [(.aload_n 0, []), (.iload_n 3, []), (.iconst 3, []), (.iadd, [])] (by decide +kernel) rfl rfl trivial ?_
  refine hh.sld (by omega) hL (by decide +kernel) ?_
  obtain ⟨wX, wM, PX, PM, rfl, hX, hM, h1, hJ⟩ := P_begin (l := l) hI (xs (i + 1)) (xs (i + 2)) (xs (i + 3))
  refine h.callB (as := [.inr (.int (xs (i + 1))), .inr (.int (xs (i + 2))), .inr (.int (xs (i + 3)))]) (rest := []) (hX.left wM) rfl (by decide +kernel) kl_L_24_X kq_X_begin ka_X_begin ⟨by decide, by decide⟩ ⟨by decide, by decide⟩ rfl (Nat.le_of_ble_eq_true rfl) (fun r_ w_ hp_ => ?_)
  obtain ⟨v1, hp1, rfl⟩ := hp_
  obtain ⟨va, xa, rfl, hxa⟩ := h1 _ _ hp1
  show G 229 [(3, .inl i), (2, .inr (.ref (B 0))), (1, .inr (.ref (A 0))), (0, .inr (.ref b))] [va] (v1 ++ wM) 51 19279
  refine h.run (pc2 := 234) (lv' := [(3, .inl i), (2, .inr (.ref (B 0))), (1, .inr (.ref (A 0))), (0, .inr (.ref b))]) (st' := [.inl (i + 1), .inr (.ref b), .inr (.ref (B 0)), va]) (w' := (v1 ++ wM)) (ob := []) [(.aload_n 2, []), (.aload_n 0, []), (.iload_n 3, []), (.iconst 1, []), (.iadd, [])] (by decide +kernel) rfl rfl trivial ?_
  refine hh.sld (by omega) hL (by decide +kernel) ?_
  refine h.run (pc2 := 239) (lv' := [(3, .inl i), (2, .inr (.ref (B 0))), (1, .inr (.ref (A 0))), (0, .inr (.ref b))]) (st' := [.inl (i + 2), .inr (.ref b), .inr (.int (xs (i + 1))), .inr (.ref (B 0)), va]) (w' := (v1 ++ wM)) (ob := []) [(.aload_n 0, []), (.iload_n 3, []), (.iconst 2, []), (.iadd, [])] (by decide +kernel) rfl rfl trivial ?_
  refine hh.sld (by omega) hL (by decide +kernel) ?_
  refine h.run (pc2 := 244) (lv' := [(3, .inl i), (2, .inr (.ref (B 0))), (1, .inr (.ref (A 0))), (0, .inr (.ref b))]) (st' := [.inl (i + 3), .inr (.ref b), .inr (.int (xs (i + 2))), .inr (.int (xs (i + 1))), .inr (.ref (B 0)), va]) (w' := (v1 ++ wM)) (ob := []) [(.aload_n 0, []), (.iload_n 3, []), (.iconst 3, []), (.iadd, [])] (by decide +kernel) rfl rfl trivial ?_
  refine hh.sld (by omega) hL (by decide +kernel) ?_
  refine h.callB (as := [.inr (.int (xs (i + 1))), .inr (.int (xs (i + 2))), .inr (.int (xs (i + 3)))]) (rest := [va]) (hM.right v1) rfl (by decide +kernel) kl_L_28_M kq_M_begin ka_M_begin ⟨by decide, by decide⟩ ⟨by decide, by decide⟩ rfl (cat_I hxa) (fun r_ w_ hp_ => ?_)
  obtain ⟨v2, hp2, rfl⟩ := hp_
  obtain ⟨hsame, w0, hx0, hI0⟩ := hJ _ _ _ _ hp1 hp2
  obtain ⟨a_, vb, x_, e1, rfl, e3, e4⟩ := hsame
  cases e1
  show G 248 [(3, .inl i), (2, .inr (.ref (B 0))), (1, .inr (.ref (A 0))), (0, .inr (.ref b))] [vb, va] (v1 ++ v2) 51 19279
  refine h.icmp (pc2 := 462) (cd := .eq) (off := 214) (by decide +kernel) (by decide) e3 e4 (fun _ => ?_) (fun hc => absurd rfl hc)
  exact hx0 _ _ _ _ _ _ _ _ h _ _ _ _ _ (next w0 hI0)
set_option maxHeartbeats 1000000 in
theorem L_feed {l : Launch} {b L : Nat} {xs : Nat → Int32} {G : kT} {A B : Nat → Nat} {i : Nat} {w : sW} (hh : kRL l b L xs G) (hL : L < 2147483648) (hi : i + 4 ≤ L) (hI : Inv A B w) (next : ∀ w', Inv A B w' → G 462 [(3, .inl i), (2, .inr (.ref (B 0))), (1, .inr (.ref (A 0))), (0, .inr (.ref b))] [] w' 51 19279) : G 253 [(3, .inl i), (2, .inr (.ref (B 0))), (1, .inr (.ref (A 0))), (0, .inr (.ref b))] [] w 51 19279 := by
  have h := hh.toR
  refine h.run (pc2 := 258) (lv' := [(3, .inl i), (2, .inr (.ref (B 0))), (1, .inr (.ref (A 0))), (0, .inr (.ref b))]) (st' := [.inl (i + 1), .inr (.ref b), .inr (.ref (A 0))]) (w' := w) (ob := []) [(.aload_n 1, []), (.aload_n 0, []), (.iload_n 3, []), (.iconst 1, []), (.iadd, [])] (by decide +kernel) rfl rfl trivial ?_
  refine hh.sld (by omega) hL (by decide +kernel) ?_
  refine h.run (pc2 := 267) (lv' := [(3, .inl i), (2, .inr (.ref (B 0))), (1, .inr (.ref (A 0))), (0, .inr (.ref b))]) (st' := [.inl (i + 2), .inr (.ref b), .inr (.long (((xs (i + 1)).toInt64) <<< ((nI 32).toInt64 &&& 63))), .inr (.ref (A 0))]) (w' := w) (ob := []) [(.i2l, []), (.bipush 32, []), (.lshl, []), (.aload_n 0, []), (.iload_n 3, []), (.iconst 2, []), (.iadd, [])] (by decide +kernel) rfl rfl trivial ?_
  refine hh.sld (by omega) hL (by decide +kernel) ?_
  refine h.run (pc2 := 278) (lv' := [(3, .inl i), (2, .inr (.ref (B 0))), (1, .inr (.ref (A 0))), (0, .inr (.ref b))]) (st' := [.inl (i + 3), .inr (.ref b), .inr (.long ((((xs (i + 1)).toInt64) <<< ((nI 32).toInt64 &&& 63)) ||| (((xs (i + 2)).toInt64) &&& (lN 4294967295)))), .inr (.ref (A 0))]) (w' := w) (ob := [Cond.constantLong RL 13 (lN 4294967295) ∈ kWS]) [(.i2l, []), (.ldc2_w 13, [4294967295]), (.land, []), (.lor, []), (.aload_n 0, []), (.iload_n 3, []), (.iconst 3, []), (.iadd, [])] (by decide +kernel) rfl rfl (sA1 (kc_L_13)) ?_
  refine hh.sld (by omega) hL (by decide +kernel) ?_
  obtain ⟨wX, wM, PX, PM, rfl, hX, hM, h1, hJ⟩ := P_feed (l := l) hI ((((xs (i + 1)).toInt64) <<< ((nI 32).toInt64 &&& 63)) ||| (((xs (i + 2)).toInt64) &&& (lN 4294967295))) (xs (i + 3))
  refine h.callB (as := [.inr (.long ((((xs (i + 1)).toInt64) <<< ((nI 32).toInt64 &&& 63)) ||| (((xs (i + 2)).toInt64) &&& (lN 4294967295)))), .inr (.int (xs (i + 3)))]) (rest := []) (hX.left wM) rfl (by decide +kernel) kl_L_29_X kq_X_feed ka_X_feed ⟨by decide, by decide⟩ ⟨by decide, by decide⟩ rfl (Nat.le_of_ble_eq_true rfl) (fun r_ w_ hp_ => ?_)
  obtain ⟨v1, hp1, rfl⟩ := hp_
  obtain ⟨va, xa, rfl, hxa⟩ := h1 _ _ hp1
  show G 282 [(3, .inl i), (2, .inr (.ref (B 0))), (1, .inr (.ref (A 0))), (0, .inr (.ref b))] [va] (v1 ++ wM) 51 19279
  refine h.run (pc2 := 287) (lv' := [(3, .inl i), (2, .inr (.ref (B 0))), (1, .inr (.ref (A 0))), (0, .inr (.ref b))]) (st' := [.inl (i + 1), .inr (.ref b), .inr (.ref (B 0)), va]) (w' := (v1 ++ wM)) (ob := []) [(.aload_n 2, []), (.aload_n 0, []), (.iload_n 3, []), (.iconst 1, []), (.iadd, [])] (by decide +kernel) rfl rfl trivial ?_
  refine hh.sld (by omega) hL (by decide +kernel) ?_
  refine h.run (pc2 := 296) (lv' := [(3, .inl i), (2, .inr (.ref (B 0))), (1, .inr (.ref (A 0))), (0, .inr (.ref b))]) (st' := [.inl (i + 2), .inr (.ref b), .inr (.long (((xs (i + 1)).toInt64) <<< ((nI 32).toInt64 &&& 63))), .inr (.ref (B 0)), va]) (w' := (v1 ++ wM)) (ob := []) [(.i2l, []), (.bipush 32, []), (.lshl, []), (.aload_n 0, []), (.iload_n 3, []), (.iconst 2, []), (.iadd, [])] (by decide +kernel) rfl rfl trivial ?_
  refine hh.sld (by omega) hL (by decide +kernel) ?_
  refine h.run (pc2 := 307) (lv' := [(3, .inl i), (2, .inr (.ref (B 0))), (1, .inr (.ref (A 0))), (0, .inr (.ref b))]) (st' := [.inl (i + 3), .inr (.ref b), .inr (.long ((((xs (i + 1)).toInt64) <<< ((nI 32).toInt64 &&& 63)) ||| (((xs (i + 2)).toInt64) &&& (lN 4294967295)))), .inr (.ref (B 0)), va]) (w' := (v1 ++ wM)) (ob := [Cond.constantLong RL 13 (lN 4294967295) ∈ kWS]) [(.i2l, []), (.ldc2_w 13, [4294967295]), (.land, []), (.lor, []), (.aload_n 0, []), (.iload_n 3, []), (.iconst 3, []), (.iadd, [])] (by decide +kernel) rfl rfl (sA1 (kc_L_13)) ?_
  refine hh.sld (by omega) hL (by decide +kernel) ?_
  refine h.callB (as := [.inr (.long ((((xs (i + 1)).toInt64) <<< ((nI 32).toInt64 &&& 63)) ||| (((xs (i + 2)).toInt64) &&& (lN 4294967295)))), .inr (.int (xs (i + 3)))]) (rest := [va]) (hM.right v1) rfl (by decide +kernel) kl_L_33_M kq_M_feed ka_M_feed ⟨by decide, by decide⟩ ⟨by decide, by decide⟩ rfl (cat_I hxa) (fun r_ w_ hp_ => ?_)
  obtain ⟨v2, hp2, rfl⟩ := hp_
  obtain ⟨hsame, w0, hx0, hI0⟩ := hJ _ _ _ _ hp1 hp2
  obtain ⟨a_, vb, x_, e1, rfl, e3, e4⟩ := hsame
  cases e1
  show G 311 [(3, .inl i), (2, .inr (.ref (B 0))), (1, .inr (.ref (A 0))), (0, .inr (.ref b))] [vb, va] (v1 ++ v2) 51 19279
  refine h.icmp (pc2 := 462) (cd := .eq) (off := 151) (by decide +kernel) (by decide) e3 e4 (fun _ => ?_) (fun hc => absurd rfl hc)
  exact hx0 _ _ _ _ _ _ _ _ h _ _ _ _ _ (next w0 hI0)
set_option maxHeartbeats 1000000 in
theorem L_end {l : Launch} {b L : Nat} {xs : Nat → Int32} {G : kT} {A B : Nat → Nat} {i : Nat} {w : sW} (hh : kRL l b L xs G) (hL : L < 2147483648) (hi : i + 4 ≤ L) (hI : Inv A B w) (next : ∀ w', Inv A B w' → G 462 [(3, .inl i), (2, .inr (.ref (B 0))), (1, .inr (.ref (A 0))), (0, .inr (.ref b))] [] w' 51 19279) : G 316 [(3, .inl i), (2, .inr (.ref (B 0))), (1, .inr (.ref (A 0))), (0, .inr (.ref b))] [] w 51 19279 := by
  have h := hh.toR
  refine h.run (pc2 := 317) (lv' := [(3, .inl i), (2, .inr (.ref (B 0))), (1, .inr (.ref (A 0))), (0, .inr (.ref b))]) (st' := [.inr (.ref (A 0))]) (w' := w) (ob := []) [(.aload_n 1, [])] (by decide +kernel) rfl rfl trivial ?_
  obtain ⟨wX, wM, PX, PM, rfl, hX, hM, h1, hJ⟩ := P_end (l := l) hI 
  refine h.callB (as := []) (rest := []) (hX.left wM) rfl (by decide +kernel) kl_L_34_X kq_X_end ka_X_end ⟨by decide, by decide⟩ ⟨by decide, by decide⟩ rfl (Nat.le_of_ble_eq_true rfl) (fun r_ w_ hp_ => ?_)
  obtain ⟨v1, hp1, rfl⟩ := hp_
  obtain ⟨va, xa, rfl, hxa⟩ := h1 _ _ hp1
  show G 320 [(3, .inl i), (2, .inr (.ref (B 0))), (1, .inr (.ref (A 0))), (0, .inr (.ref b))] [va] (v1 ++ wM) 51 19279
  refine h.run (pc2 := 321) (lv' := [(3, .inl i), (2, .inr (.ref (B 0))), (1, .inr (.ref (A 0))), (0, .inr (.ref b))]) (st' := [.inr (.ref (B 0)), va]) (w' := (v1 ++ wM)) (ob := []) [(.aload_n 2, [])] (by decide +kernel) rfl rfl trivial ?_
  refine h.callB (as := []) (rest := [va]) (hM.right v1) rfl (by decide +kernel) kl_L_38_M kq_M_end ka_M_end ⟨by decide, by decide⟩ ⟨by decide, by decide⟩ rfl (cat_I hxa) (fun r_ w_ hp_ => ?_)
  obtain ⟨v2, hp2, rfl⟩ := hp_
  obtain ⟨hsame, w0, hx0, hI0⟩ := hJ _ _ _ _ hp1 hp2
  obtain ⟨a_, vb, x_, e1, rfl, e3, e4⟩ := hsame
  cases e1
  show G 324 [(3, .inl i), (2, .inr (.ref (B 0))), (1, .inr (.ref (A 0))), (0, .inr (.ref b))] [vb, va] (v1 ++ v2) 51 19279
  refine h.icmp (pc2 := 462) (cd := .eq) (off := 138) (by decide +kernel) (by decide) e3 e4 (fun _ => ?_) (fun hc => absurd rfl hc)
  exact hx0 _ _ _ _ _ _ _ _ h _ _ _ _ _ (next w0 hI0)
set_option maxHeartbeats 1000000 in
theorem L_given {l : Launch} {b L : Nat} {xs : Nat → Int32} {G : kT} {A B : Nat → Nat} {i : Nat} {w : sW} (hh : kRL l b L xs G) (hL : L < 2147483648) (hi : i + 4 ≤ L) (hI : Inv A B w) (next : ∀ w', Inv A B w' → G 462 [(3, .inl i), (2, .inr (.ref (B 0))), (1, .inr (.ref (A 0))), (0, .inr (.ref b))] [] w' 51 19279) : G 329 [(3, .inl i), (2, .inr (.ref (B 0))), (1, .inr (.ref (A 0))), (0, .inr (.ref b))] [] w 51 19279 := by
  have h := hh.toR
  refine h.run (pc2 := 334) (lv' := [(3, .inl i), (2, .inr (.ref (B 0))), (1, .inr (.ref (A 0))), (0, .inr (.ref b))]) (st' := [.inl (i + 1), .inr (.ref b), .inr (.ref (A 0))]) (w' := w) (ob := []) [(.aload_n 1, []), (.aload_n 0, []), (.iload_n 3, []), (.iconst 1, []), (.iadd, [])] (by decide +kernel) rfl rfl trivial ?_
  refine hh.sld (by omega) hL (by decide +kernel) ?_
  obtain ⟨wX, wM, PX, PM, rfl, hX, hM, h1, hJ⟩ := P_given (l := l) hI (xs (i + 1))
  refine h.callB (as := [.inr (.int (xs (i + 1)))]) (rest := []) (hX.left wM) rfl (by decide +kernel) kl_L_39_X kq_X_given ka_X_given ⟨by decide, by decide⟩ ⟨by decide, by decide⟩ rfl (Nat.le_of_ble_eq_true rfl) (fun r_ w_ hp_ => ?_)
  obtain ⟨v1, hp1, rfl⟩ := hp_
  obtain ⟨va, xa, rfl, hxa⟩ := h1 _ _ hp1
  show G 338 [(3, .inl i), (2, .inr (.ref (B 0))), (1, .inr (.ref (A 0))), (0, .inr (.ref b))] [va] (v1 ++ wM) 51 19279
  refine h.run (pc2 := 343) (lv' := [(3, .inl i), (2, .inr (.ref (B 0))), (1, .inr (.ref (A 0))), (0, .inr (.ref b))]) (st' := [.inl (i + 1), .inr (.ref b), .inr (.ref (B 0)), va]) (w' := (v1 ++ wM)) (ob := []) [(.aload_n 2, []), (.aload_n 0, []), (.iload_n 3, []), (.iconst 1, []), (.iadd, [])] (by decide +kernel) rfl rfl trivial ?_
  refine hh.sld (by omega) hL (by decide +kernel) ?_
  refine h.callB (as := [.inr (.int (xs (i + 1)))]) (rest := [va]) (hM.right v1) rfl (by decide +kernel) kl_L_43_M kq_M_given ka_M_given ⟨by decide, by decide⟩ ⟨by decide, by decide⟩ rfl (cat_I hxa) (fun r_ w_ hp_ => ?_)
  obtain ⟨v2, hp2, rfl⟩ := hp_
  obtain ⟨hsame, w0, hx0, hI0⟩ := hJ _ _ _ _ hp1 hp2
  obtain ⟨a_, vb, x_, e1, rfl, e3, e4⟩ := hsame
  cases e1
  show G 347 [(3, .inl i), (2, .inr (.ref (B 0))), (1, .inr (.ref (A 0))), (0, .inr (.ref b))] [vb, va] (v1 ++ v2) 51 19279
  refine h.icmp (pc2 := 462) (cd := .eq) (off := 115) (by decide +kernel) (by decide) e3 e4 (fun _ => ?_) (fun hc => absurd rfl hc)
  exact hx0 _ _ _ _ _ _ _ _ h _ _ _ _ _ (next w0 hI0)
set_option maxHeartbeats 1000000 in
theorem L_block {l : Launch} {b L : Nat} {xs : Nat → Int32} {G : kT} {A B : Nat → Nat} {i : Nat} {w : sW} (hh : kRL l b L xs G) (hL : L < 2147483648) (hi : i + 4 ≤ L) (hI : Inv A B w) (next : ∀ w', Inv A B w' → G 462 [(3, .inl i), (2, .inr (.ref (B 0))), (1, .inr (.ref (A 0))), (0, .inr (.ref b))] [] w' 51 19279) : G 352 [(3, .inl i), (2, .inr (.ref (B 0))), (1, .inr (.ref (A 0))), (0, .inr (.ref b))] [] w 51 19279 := by
  have h := hh.toR
  refine h.run (pc2 := 357) (lv' := [(3, .inl i), (2, .inr (.ref (B 0))), (1, .inr (.ref (A 0))), (0, .inr (.ref b))]) (st' := [.inl (i + 1), .inr (.ref b), .inr (.ref (A 0))]) (w' := w) (ob := []) [(.aload_n 1, []), (.aload_n 0, []), (.iload_n 3, []), (.iconst 1, []), (.iadd, [])] (by decide +kernel) rfl rfl trivial ?_
  refine hh.sld (by omega) hL (by decide +kernel) ?_
  refine h.run (pc2 := 362) (lv' := [(3, .inl i), (2, .inr (.ref (B 0))), (1, .inr (.ref (A 0))), (0, .inr (.ref b))]) (st' := [.inl (i + 2), .inr (.ref b), .inr (.int (xs (i + 1))), .inr (.ref (A 0))]) (w' := w) (ob := []) [(.aload_n 0, []), (.iload_n 3, []), (.iconst 2, []), (.iadd, [])] (by decide +kernel) rfl rfl trivial ?_
  refine hh.sld (by omega) hL (by decide +kernel) ?_
  refine h.run (pc2 := 367) (lv' := [(3, .inl i), (2, .inr (.ref (B 0))), (1, .inr (.ref (A 0))), (0, .inr (.ref b))]) (st' := [.inl (i + 3), .inr (.ref b), .inr (.int (xs (i + 2))), .inr (.int (xs (i + 1))), .inr (.ref (A 0))]) (w' := w) (ob := []) [(.aload_n 0, []), (.iload_n 3, []), (.iconst 3, []), (.iadd, [])] (by decide +kernel) rfl rfl trivial ?_
  refine hh.sld (by omega) hL (by decide +kernel) ?_
  obtain ⟨wX, wM, PX, PM, rfl, hX, hM, h1, hJ⟩ := P_block (l := l) hI (xs (i + 1)) (xs (i + 2)) (xs (i + 3))
  refine h.callB (as := [.inr (.int (xs (i + 1))), .inr (.int (xs (i + 2))), .inr (.int (xs (i + 3)))]) (rest := []) (hX.left wM) rfl (by decide +kernel) kl_L_44_X kq_X_block ka_X_block ⟨by decide, by decide⟩ ⟨by decide, by decide⟩ rfl (Nat.le_of_ble_eq_true rfl) (fun r_ w_ hp_ => ?_)
  obtain ⟨v1, hp1, rfl⟩ := hp_
  obtain ⟨xa, rfl⟩ := h1 _ _ hp1
  show G 371 [(3, .inl i), (2, .inr (.ref (B 0))), (1, .inr (.ref (A 0))), (0, .inr (.ref b))] [.inr (.long xa)] (v1 ++ wM) 51 19279
  refine h.run (pc2 := 376) (lv' := [(3, .inl i), (2, .inr (.ref (B 0))), (1, .inr (.ref (A 0))), (0, .inr (.ref b))]) (st' := [.inl (i + 1), .inr (.ref b), .inr (.ref (B 0)), .inr (.long xa)]) (w' := (v1 ++ wM)) (ob := []) [(.aload_n 2, []), (.aload_n 0, []), (.iload_n 3, []), (.iconst 1, []), (.iadd, [])] (by decide +kernel) rfl rfl trivial ?_
  refine hh.sld (by omega) hL (by decide +kernel) ?_
  refine h.run (pc2 := 381) (lv' := [(3, .inl i), (2, .inr (.ref (B 0))), (1, .inr (.ref (A 0))), (0, .inr (.ref b))]) (st' := [.inl (i + 2), .inr (.ref b), .inr (.int (xs (i + 1))), .inr (.ref (B 0)), .inr (.long xa)]) (w' := (v1 ++ wM)) (ob := []) [(.aload_n 0, []), (.iload_n 3, []), (.iconst 2, []), (.iadd, [])] (by decide +kernel) rfl rfl trivial ?_
  refine hh.sld (by omega) hL (by decide +kernel) ?_
  refine h.run (pc2 := 386) (lv' := [(3, .inl i), (2, .inr (.ref (B 0))), (1, .inr (.ref (A 0))), (0, .inr (.ref b))]) (st' := [.inl (i + 3), .inr (.ref b), .inr (.int (xs (i + 2))), .inr (.int (xs (i + 1))), .inr (.ref (B 0)), .inr (.long xa)]) (w' := (v1 ++ wM)) (ob := []) [(.aload_n 0, []), (.iload_n 3, []), (.iconst 3, []), (.iadd, [])] (by decide +kernel) rfl rfl trivial ?_
  refine hh.sld (by omega) hL (by decide +kernel) ?_
  refine h.callB (as := [.inr (.int (xs (i + 1))), .inr (.int (xs (i + 2))), .inr (.int (xs (i + 3)))]) (rest := [.inr (.long xa)]) (hM.right v1) rfl (by decide +kernel) kl_L_48_M kq_M_block ka_M_block ⟨by decide, by decide⟩ ⟨by decide, by decide⟩ rfl (Nat.le_of_ble_eq_true rfl) (fun r_ w_ hp_ => ?_)
  obtain ⟨v2, hp2, rfl⟩ := hp_
  obtain ⟨hsame, w0, hx0, hI0⟩ := hJ _ _ _ _ hp1 hp2
  obtain ⟨x_, e1, rfl⟩ := hsame
  cases e1
  show G 390 [(3, .inl i), (2, .inr (.ref (B 0))), (1, .inr (.ref (A 0))), (0, .inr (.ref b))] [.inr (.long xa), .inr (.long xa)] (v1 ++ v2) 51 19279
  refine h.lcmp (by decide +kernel) ?_
  refine h.ifc (pc2 := 462) (cd := .eq) (off := 71) (by decide +kernel) (by decide) rfl (fun _ => ?_) (fun hc => absurd ((lg_cmp_eq xa xa).mpr rfl) hc)
  exact hx0 _ _ _ _ _ _ _ _ h _ _ _ _ _ (next w0 hI0)
set_option maxHeartbeats 1000000 in
theorem L_box {l : Launch} {b L : Nat} {xs : Nat → Int32} {G : kT} {A B : Nat → Nat} {i : Nat} {w : sW} (hh : kRL l b L xs G) (hL : L < 2147483648) (hi : i + 4 ≤ L) (hI : Inv A B w) (next : ∀ w', Inv A B w' → G 462 [(3, .inl i), (2, .inr (.ref (B 0))), (1, .inr (.ref (A 0))), (0, .inr (.ref b))] [] w' 51 19279) : G 396 [(3, .inl i), (2, .inr (.ref (B 0))), (1, .inr (.ref (A 0))), (0, .inr (.ref b))] [] w 51 19279 := by
  have h := hh.toR
  refine h.run (pc2 := 401) (lv' := [(3, .inl i), (2, .inr (.ref (B 0))), (1, .inr (.ref (A 0))), (0, .inr (.ref b))]) (st' := [.inl (i + 1), .inr (.ref b), .inr (.ref (A 0))]) (w' := w) (ob := []) [(.aload_n 1, []), (.aload_n 0, []), (.iload_n 3, []), (.iconst 1, []), (.iadd, [])] (by decide +kernel) rfl rfl trivial ?_
  refine hh.sld (by omega) hL (by decide +kernel) ?_
  refine h.run (pc2 := 406) (lv' := [(3, .inl i), (2, .inr (.ref (B 0))), (1, .inr (.ref (A 0))), (0, .inr (.ref b))]) (st' := [.inl (i + 2), .inr (.ref b), .inr (.int (xs (i + 1))), .inr (.ref (A 0))]) (w' := w) (ob := []) [(.aload_n 0, []), (.iload_n 3, []), (.iconst 2, []), (.iadd, [])] (by decide +kernel) rfl rfl trivial ?_
  refine hh.sld (by omega) hL (by decide +kernel) ?_
  obtain ⟨wX, wM, PX, PM, rfl, hX, hM, h1, hJ⟩ := P_box (l := l) hI (xs (i + 1)) (xs (i + 2))
  refine h.callB (as := [.inr (.int (xs (i + 1))), .inr (.int (xs (i + 2)))]) (rest := []) (hX.left wM) rfl (by decide +kernel) kl_L_49_X kq_X_box ka_X_box ⟨by decide, by decide⟩ ⟨by decide, by decide⟩ rfl (Nat.le_of_ble_eq_true rfl) (fun r_ w_ hp_ => ?_)
  obtain ⟨v1, hp1, rfl⟩ := hp_
  obtain ⟨va, xa, rfl, hxa⟩ := h1 _ _ hp1
  show G 410 [(3, .inl i), (2, .inr (.ref (B 0))), (1, .inr (.ref (A 0))), (0, .inr (.ref b))] [va] (v1 ++ wM) 51 19279
  refine h.run (pc2 := 415) (lv' := [(3, .inl i), (2, .inr (.ref (B 0))), (1, .inr (.ref (A 0))), (0, .inr (.ref b))]) (st' := [.inl (i + 1), .inr (.ref b), .inr (.ref (B 0)), va]) (w' := (v1 ++ wM)) (ob := []) [(.aload_n 2, []), (.aload_n 0, []), (.iload_n 3, []), (.iconst 1, []), (.iadd, [])] (by decide +kernel) rfl rfl trivial ?_
  refine hh.sld (by omega) hL (by decide +kernel) ?_
  refine h.run (pc2 := 420) (lv' := [(3, .inl i), (2, .inr (.ref (B 0))), (1, .inr (.ref (A 0))), (0, .inr (.ref b))]) (st' := [.inl (i + 2), .inr (.ref b), .inr (.int (xs (i + 1))), .inr (.ref (B 0)), va]) (w' := (v1 ++ wM)) (ob := []) [(.aload_n 0, []), (.iload_n 3, []), (.iconst 2, []), (.iadd, [])] (by decide +kernel) rfl rfl trivial ?_
  refine hh.sld (by omega) hL (by decide +kernel) ?_
  refine h.callB (as := [.inr (.int (xs (i + 1))), .inr (.int (xs (i + 2)))]) (rest := [va]) (hM.right v1) rfl (by decide +kernel) kl_L_53_M kq_M_box ka_M_box ⟨by decide, by decide⟩ ⟨by decide, by decide⟩ rfl (cat_I hxa) (fun r_ w_ hp_ => ?_)
  obtain ⟨v2, hp2, rfl⟩ := hp_
  obtain ⟨hsame, w0, hx0, hI0⟩ := hJ _ _ _ _ hp1 hp2
  obtain ⟨a_, vb, x_, e1, rfl, e3, e4⟩ := hsame
  cases e1
  show G 424 [(3, .inl i), (2, .inr (.ref (B 0))), (1, .inr (.ref (A 0))), (0, .inr (.ref b))] [vb, va] (v1 ++ v2) 51 19279
  refine h.icmp (pc2 := 462) (cd := .eq) (off := 38) (by decide +kernel) (by decide) e3 e4 (fun _ => ?_) (fun hc => absurd rfl hc)
  exact hx0 _ _ _ _ _ _ _ _ h _ _ _ _ _ (next w0 hI0)
set_option maxHeartbeats 1000000 in
theorem L_product {l : Launch} {b L : Nat} {xs : Nat → Int32} {G : kT} {A B : Nat → Nat} {i : Nat} {w : sW} (hh : kRL l b L xs G) (hL : L < 2147483648) (hi : i + 4 ≤ L) (hI : Inv A B w) (next : ∀ w', Inv A B w' → G 462 [(3, .inl i), (2, .inr (.ref (B 0))), (1, .inr (.ref (A 0))), (0, .inr (.ref b))] [] w' 51 19279) : G 429 [(3, .inl i), (2, .inr (.ref (B 0))), (1, .inr (.ref (A 0))), (0, .inr (.ref b))] [] w 51 19279 := by
  have h := hh.toR
  refine h.run (pc2 := 434) (lv' := [(3, .inl i), (2, .inr (.ref (B 0))), (1, .inr (.ref (A 0))), (0, .inr (.ref b))]) (st' := [.inl (i + 1), .inr (.ref b), .inr (.ref (A 0))]) (w' := w) (ob := []) [(.aload_n 1, []), (.aload_n 0, []), (.iload_n 3, []), (.iconst 1, []), (.iadd, [])] (by decide +kernel) rfl rfl trivial ?_
  refine hh.sld (by omega) hL (by decide +kernel) ?_
  refine h.run (pc2 := 439) (lv' := [(3, .inl i), (2, .inr (.ref (B 0))), (1, .inr (.ref (A 0))), (0, .inr (.ref b))]) (st' := [.inl (i + 2), .inr (.ref b), .inr (.int (xs (i + 1))), .inr (.ref (A 0))]) (w' := w) (ob := []) [(.aload_n 0, []), (.iload_n 3, []), (.iconst 2, []), (.iadd, [])] (by decide +kernel) rfl rfl trivial ?_
  refine hh.sld (by omega) hL (by decide +kernel) ?_
  obtain ⟨wX, wM, PX, PM, rfl, hX, hM, h1, hJ⟩ := P_product (l := l) hI (xs (i + 1)) (xs (i + 2))
  refine h.callB (as := [.inr (.int (xs (i + 1))), .inr (.int (xs (i + 2)))]) (rest := []) (hX.left wM) rfl (by decide +kernel) kl_L_54_X kq_X_product ka_X_product ⟨by decide, by decide⟩ ⟨by decide, by decide⟩ rfl (Nat.le_of_ble_eq_true rfl) (fun r_ w_ hp_ => ?_)
  obtain ⟨v1, hp1, rfl⟩ := hp_
  obtain ⟨va, xa, rfl, hxa⟩ := h1 _ _ hp1
  show G 443 [(3, .inl i), (2, .inr (.ref (B 0))), (1, .inr (.ref (A 0))), (0, .inr (.ref b))] [va] (v1 ++ wM) 51 19279
  refine h.run (pc2 := 448) (lv' := [(3, .inl i), (2, .inr (.ref (B 0))), (1, .inr (.ref (A 0))), (0, .inr (.ref b))]) (st' := [.inl (i + 1), .inr (.ref b), .inr (.ref (B 0)), va]) (w' := (v1 ++ wM)) (ob := []) [(.aload_n 2, []), (.aload_n 0, []), (.iload_n 3, []), (.iconst 1, []), (.iadd, [])] (by decide +kernel) rfl rfl trivial ?_
  refine hh.sld (by omega) hL (by decide +kernel) ?_
  refine h.run (pc2 := 453) (lv' := [(3, .inl i), (2, .inr (.ref (B 0))), (1, .inr (.ref (A 0))), (0, .inr (.ref b))]) (st' := [.inl (i + 2), .inr (.ref b), .inr (.int (xs (i + 1))), .inr (.ref (B 0)), va]) (w' := (v1 ++ wM)) (ob := []) [(.aload_n 0, []), (.iload_n 3, []), (.iconst 2, []), (.iadd, [])] (by decide +kernel) rfl rfl trivial ?_
  refine hh.sld (by omega) hL (by decide +kernel) ?_
  refine h.callB (as := [.inr (.int (xs (i + 1))), .inr (.int (xs (i + 2)))]) (rest := [va]) (hM.right v1) rfl (by decide +kernel) kl_L_57_M kq_M_product ka_M_product ⟨by decide, by decide⟩ ⟨by decide, by decide⟩ rfl (cat_I hxa) (fun r_ w_ hp_ => ?_)
  obtain ⟨v2, hp2, rfl⟩ := hp_
  obtain ⟨hsame, w0, hx0, hI0⟩ := hJ _ _ _ _ hp1 hp2
  obtain ⟨a_, vb, x_, e1, rfl, e3, e4⟩ := hsame
  cases e1
  show G 457 [(3, .inl i), (2, .inr (.ref (B 0))), (1, .inr (.ref (A 0))), (0, .inr (.ref b))] [vb, va] (v1 ++ v2) 51 19279
  refine h.icmp (pc2 := 462) (cd := .eq) (off := 5) (by decide +kernel) (by decide) e3 e4 (fun _ => ?_) (fun hc => absurd rfl hc)
  exact hx0 _ _ _ _ _ _ _ _ h _ _ _ _ _ (next w0 hI0)
theorem l_neg {L i : Nat} (hL : L < 4) (hi : i < 2 ^ 31) : sCmp .gt (nI i) (nI L - nI 4) := by
  show nI L - nI 4 < nI i
  have h1 := pk_sneg (show 4 < 2 ^ 30 by decide) hL
  rw [Int32.lt_iff_toInt_lt] at h1 ⊢
  rw [nI_toInt hi]
  have h0 : (0 : Int32).toInt = 0 := rfl
  omega
set_option maxHeartbeats 1000000 in
theorem L_loop {l : Launch} {b L : Nat} {xs : Nat → Int32} {G : kT} {A B : Nat → Nat} (hh : kRL l b L xs G) (hL : L < 2147483600) : ∀ (fuel i : Nat) (w : sW), L ≤ i + fuel → (i ≤ L ∨ i = 0) → Inv A B w → G 18 [(3, .inl i), (2, .inr (.ref (B 0))), (1, .inr (.ref (A 0))), (0, .inr (.ref b))] [] w 51 19279 := by
  have h := hh.toR
  have hL : L < 2147483648 := by omega
  intro fuel
  induction fuel with
  | zero =>
    intro i w hf hiL hI
    by_cases h4 : 4 ≤ L
    · refine h.run (pc2 := 20) (lv' := [(3, .inl i), (2, .inr (.ref (B 0))), (1, .inr (.ref (A 0))), (0, .inr (.ref b))]) (st' := [.inr (.ref b), .inl i]) (w' := w) (ob := []) [(.iload_n 3, []), (.aload_n 0, [])] (by decide +kernel) rfl rfl trivial ?_
      refine hh.slen (by decide +kernel) ?_
      refine h.run (pc2 := 23) (lv' := [(3, .inl i), (2, .inr (.ref (B 0))), (1, .inr (.ref (A 0))), (0, .inr (.ref b))]) (st' := [.inl (L - 4), .inl i]) (w' := w) (ob := [4 ≤ L]) [(.iconst 4, []), (.isub, [])] (by decide +kernel) rfl rfl (sA1 (by omega)) ?_
      refine h.icmpN (pc2 := 468) (cd := .gt) (off := 445) (by decide +kernel) (by decide) (by omega) (by omega) (fun _ => ?_) (fun hc => absurd (show L - 4 < i by omega) hc)
      refine h.run (pc2 := 469) (lv' := [(3, .inl i), (2, .inr (.ref (B 0))), (1, .inr (.ref (A 0))), (0, .inr (.ref b))]) (st' := [.inl 1]) (w' := w) (ob := []) [(.iconst 1, [])] (by decide +kernel) rfl rfl trivial ?_
      exact h.fin ⟨rfl, by decide +kernel, by decide, by decide⟩
    · refine h.run (pc2 := 20) (lv' := [(3, .inl i), (2, .inr (.ref (B 0))), (1, .inr (.ref (A 0))), (0, .inr (.ref b))]) (st' := [.inr (.ref b), .inl i]) (w' := w) (ob := []) [(.iload_n 3, []), (.aload_n 0, [])] (by decide +kernel) rfl rfl trivial ?_
      refine hh.slen (by decide +kernel) ?_
      refine h.run (pc2 := 23) (lv' := [(3, .inl i), (2, .inr (.ref (B 0))), (1, .inr (.ref (A 0))), (0, .inr (.ref b))]) (st' := [.inr (.int ((nI L) - (nI 4))), .inl i]) (w' := w) (ob := []) [(.iconst 4, []), (.isub, [1])] (by decide +kernel) rfl rfl trivial ?_
      refine h.icmp (pc2 := 468) (cd := .gt) (off := 445) (x := nI i) (y := nI L - nI 4) (by decide +kernel) (by decide) rfl rfl (fun _ => ?_) (fun hc => absurd (l_neg (show L < 4 by omega) (show i < 2 ^ 31 by omega)) hc)
      refine h.run (pc2 := 469) (lv' := [(3, .inl i), (2, .inr (.ref (B 0))), (1, .inr (.ref (A 0))), (0, .inr (.ref b))]) (st' := [.inl 1]) (w' := w) (ob := []) [(.iconst 1, [])] (by decide +kernel) rfl rfl trivial ?_
      exact h.fin ⟨rfl, by decide +kernel, by decide, by decide⟩
  | succ fuel ih =>
    intro i w hf hiL hI
    by_cases h4 : 4 ≤ L
    · refine h.run (pc2 := 20) (lv' := [(3, .inl i), (2, .inr (.ref (B 0))), (1, .inr (.ref (A 0))), (0, .inr (.ref b))]) (st' := [.inr (.ref b), .inl i]) (w' := w) (ob := []) [(.iload_n 3, []), (.aload_n 0, [])] (by decide +kernel) rfl rfl trivial ?_
      refine hh.slen (by decide +kernel) ?_
      refine h.run (pc2 := 23) (lv' := [(3, .inl i), (2, .inr (.ref (B 0))), (1, .inr (.ref (A 0))), (0, .inr (.ref b))]) (st' := [.inl (L - 4), .inl i]) (w' := w) (ob := [4 ≤ L]) [(.iconst 4, []), (.isub, [])] (by decide +kernel) rfl rfl (sA1 (by omega)) ?_
      refine h.icmpN (pc2 := 468) (cd := .gt) (off := 445) (by decide +kernel) (by decide) (by omega) (by omega) (fun _ => ?_) (fun hc => ?_)
      · refine h.run (pc2 := 469) (lv' := [(3, .inl i), (2, .inr (.ref (B 0))), (1, .inr (.ref (A 0))), (0, .inr (.ref b))]) (st' := [.inl 1]) (w' := w) (ob := []) [(.iconst 1, [])] (by decide +kernel) rfl rfl trivial ?_
        exact h.fin ⟨rfl, by decide +kernel, by decide, by decide⟩
      · have hc : i + 4 ≤ L := by simp only [sCmpN] at hc; omega
        refine h.run (pc2 := 28) (lv' := [(3, .inl i), (2, .inr (.ref (B 0))), (1, .inr (.ref (A 0))), (0, .inr (.ref b))]) (st' := [.inl i, .inr (.ref b)]) (w' := w) (ob := []) [(.aload_n 0, []), (.iload_n 3, [])] (by decide +kernel) rfl rfl trivial ?_
        refine hh.sld (by omega) hL (by decide +kernel) ?_
        refine h.run (pc2 := 32) (lv' := [(3, .inl i), (2, .inr (.ref (B 0))), (1, .inr (.ref (A 0))), (0, .inr (.ref b))]) (st' := [.inr (.int ((xs i) &&& (nI 15)))]) (w' := w) (ob := []) [(.bipush 15, []), (.iand, [])] (by decide +kernel) rfl rfl trivial ?_
        obtain ⟨j, hj, ej⟩ := pk_andE (xs i) 4 (m := nI 15) (by decide)
        rw [ej]
        have next : ∀ w', Inv A B w' → G 462 [(3, .inl i), (2, .inr (.ref (B 0))), (1, .inr (.ref (A 0))), (0, .inr (.ref b))] [] w' 51 19279 := by
          intro w' hI'
          refine h.run (pc2 := 465) (lv' := [(3, .inl (i + 4)), (2, .inr (.ref (B 0))), (1, .inr (.ref (A 0))), (0, .inr (.ref b))]) (st' := []) (w' := w') (ob := []) [(.iinc 3 4, [])] (by decide +kernel) rfl rfl trivial ?_
          refine h.goto (pc2 := 18) (off := -447) (by decide +kernel) (by decide) ?_
          exact ih (i + 4) w' (by omega) (by omega) hI'
        rcases (by omega : j = 0 ∨ j = 1 ∨ j = 2 ∨ j = 3 ∨ j = 4 ∨ j = 5 ∨ j = 6 ∨ j = 7 ∨ j = 8 ∨ 9 ≤ j) with rfl | rfl | rfl | rfl | rfl | rfl | rfl | rfl | rfl | hj9
        · exact h.swIn (pc2 := 84) (x := nI 0) (dflt := 430) (lo := 0) (hi := 8) (offs := #[52, 115, 178, 221, 284, 297, 320, 364, 397]) (len := 52) (off := 52) (by decide +kernel) rfl (by decide +kernel) (by decide +kernel) (by decide +kernel) (by decide) (L_key hh hL hc hI next)
        · exact h.swIn (pc2 := 147) (x := nI 1) (dflt := 430) (lo := 0) (hi := 8) (offs := #[52, 115, 178, 221, 284, 297, 320, 364, 397]) (len := 52) (off := 115) (by decide +kernel) rfl (by decide +kernel) (by decide +kernel) (by decide +kernel) (by decide) (L_initial hh hL hc hI next)
        · exact h.swIn (pc2 := 210) (x := nI 2) (dflt := 430) (lo := 0) (hi := 8) (offs := #[52, 115, 178, 221, 284, 297, 320, 364, 397]) (len := 52) (off := 178) (by decide +kernel) rfl (by decide +kernel) (by decide +kernel) (by decide +kernel) (by decide) (L_begin hh hL hc hI next)
        · exact h.swIn (pc2 := 253) (x := nI 3) (dflt := 430) (lo := 0) (hi := 8) (offs := #[52, 115, 178, 221, 284, 297, 320, 364, 397]) (len := 52) (off := 221) (by decide +kernel) rfl (by decide +kernel) (by decide +kernel) (by decide +kernel) (by decide) (L_feed hh hL hc hI next)
        · exact h.swIn (pc2 := 316) (x := nI 4) (dflt := 430) (lo := 0) (hi := 8) (offs := #[52, 115, 178, 221, 284, 297, 320, 364, 397]) (len := 52) (off := 284) (by decide +kernel) rfl (by decide +kernel) (by decide +kernel) (by decide +kernel) (by decide) (L_end hh hL hc hI next)
        · exact h.swIn (pc2 := 329) (x := nI 5) (dflt := 430) (lo := 0) (hi := 8) (offs := #[52, 115, 178, 221, 284, 297, 320, 364, 397]) (len := 52) (off := 297) (by decide +kernel) rfl (by decide +kernel) (by decide +kernel) (by decide +kernel) (by decide) (L_given hh hL hc hI next)
        · exact h.swIn (pc2 := 352) (x := nI 6) (dflt := 430) (lo := 0) (hi := 8) (offs := #[52, 115, 178, 221, 284, 297, 320, 364, 397]) (len := 52) (off := 320) (by decide +kernel) rfl (by decide +kernel) (by decide +kernel) (by decide +kernel) (by decide) (L_block hh hL hc hI next)
        · exact h.swIn (pc2 := 396) (x := nI 7) (dflt := 430) (lo := 0) (hi := 8) (offs := #[52, 115, 178, 221, 284, 297, 320, 364, 397]) (len := 52) (off := 364) (by decide +kernel) rfl (by decide +kernel) (by decide +kernel) (by decide +kernel) (by decide) (L_box hh hL hc hI next)
        · exact h.swIn (pc2 := 429) (x := nI 8) (dflt := 430) (lo := 0) (hi := 8) (offs := #[52, 115, 178, 221, 284, 297, 320, 364, 397]) (len := 52) (off := 397) (by decide +kernel) rfl (by decide +kernel) (by decide +kernel) (by decide +kernel) (by decide) (L_product hh hL hc hI next)
        · exact h.swOut (pc2 := 462) (x := nI j) (dflt := 430) (lo := 0) (hi := 8) (offs := #[52, 115, 178, 221, 284, 297, 320, 364, 397]) (len := 52) (by decide +kernel) rfl (Or.inr (by rw [nI_toInt (by omega)]; omega)) (by decide) (next w hI)
    · refine h.run (pc2 := 20) (lv' := [(3, .inl i), (2, .inr (.ref (B 0))), (1, .inr (.ref (A 0))), (0, .inr (.ref b))]) (st' := [.inr (.ref b), .inl i]) (w' := w) (ob := []) [(.iload_n 3, []), (.aload_n 0, [])] (by decide +kernel) rfl rfl trivial ?_
      refine hh.slen (by decide +kernel) ?_
      refine h.run (pc2 := 23) (lv' := [(3, .inl i), (2, .inr (.ref (B 0))), (1, .inr (.ref (A 0))), (0, .inr (.ref b))]) (st' := [.inr (.int ((nI L) - (nI 4))), .inl i]) (w' := w) (ob := []) [(.iconst 4, []), (.isub, [1])] (by decide +kernel) rfl rfl trivial ?_
      refine h.icmp (pc2 := 468) (cd := .gt) (off := 445) (x := nI i) (y := nI L - nI 4) (by decide +kernel) (by decide) rfl rfl (fun _ => ?_) (fun hc => absurd (l_neg (show L < 4 by omega) (show i < 2 ^ 31 by omega)) hc)
      refine h.run (pc2 := 469) (lv' := [(3, .inl i), (2, .inr (.ref (B 0))), (1, .inr (.ref (A 0))), (0, .inr (.ref b))]) (st' := [.inl 1]) (w' := w) (ob := []) [(.iconst 1, [])] (by decide +kernel) rfl rfl trivial ?_
      exact h.fin ⟨rfl, by decide +kernel, by decide, by decide⟩
