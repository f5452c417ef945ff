set_option maxRecDepth 100000 in
theorem kf_BX_7_1 : kFld RBX 7 1 0 := ⟨RBX, TBX, 2, "CipherModes$Boxes", rfl, by decide, kuBX, Or.inl (kt (List.mem_append_left _ (List.mem_of_getElem? (i := 38) rfl)) rfl), Or.inl rfl⟩
set_option maxRecDepth 100000 in
theorem kp_BX_7_1_t : kPutW true RBX 7 1 0 (.array .int) := ⟨RBX, TBX, 2, "CipherModes$Boxes", tyBX, rfl, by decide, kuBX, tyoBX, nmBX, rfl, kt (List.mem_append_left _ (List.mem_of_getElem? (i := 38) rfl)) rfl, Or.inl rfl, Or.inr ⟨rfl, rfl, rfl⟩⟩
set_option maxRecDepth 100000 in
theorem kf_BC_17_1 : kFld RBC 17 1 0 := ⟨RBX, TBX, 2, "CipherModes$Boxes", rfl, by decide, kuBX, Or.inr ⟨_, ktn (List.mem_append_left _ (List.mem_of_getElem? (i := 39) rfl)) rfl⟩, Or.inl rfl⟩
set_option maxRecDepth 100000 in
theorem kf_BX_13_1 : kFld RBX 13 1 1 := ⟨RBX, TBX, 2, "CipherModes$Boxes", rfl, by decide, kuBX, Or.inl (kt (List.mem_append_left _ (List.mem_of_getElem? (i := 40) rfl)) rfl), Or.inl rfl⟩
set_option maxRecDepth 100000 in
theorem kp_BX_13_1_t : kPutW true RBX 13 1 1 (.array .int) := ⟨RBX, TBX, 2, "CipherModes$Boxes", tyBX, rfl, by decide, kuBX, tyoBX, nmBX, rfl, kt (List.mem_append_left _ (List.mem_of_getElem? (i := 40) rfl)) rfl, Or.inl rfl, Or.inr ⟨rfl, rfl, rfl⟩⟩
set_option maxRecDepth 100000 in
theorem kf_BC_23_1 : kFld RBC 23 1 1 := ⟨RBX, TBX, 2, "CipherModes$Boxes", rfl, by decide, kuBX, Or.inr ⟨_, ktn (List.mem_append_left _ (List.mem_of_getElem? (i := 41) rfl)) rfl⟩, Or.inl rfl⟩
set_option maxRecDepth 100000 in
theorem kf_BC_22_0 : kFld RBC 22 0 0 := ⟨RBC, TBC, 4, "CipherModes$BlockCipher", rfl, by decide, kuBC, Or.inl (kt (List.mem_append_left _ (List.mem_of_getElem? (i := 54) rfl)) rfl), Or.inl rfl⟩
set_option maxRecDepth 100000 in
theorem kp_BC_22_0_t : kPutW true RBC 22 0 0 (.array .int) := ⟨RBC, TBC, 4, "CipherModes$BlockCipher", tyBC, rfl, by decide, kuBC, tyoBC, nmBC, rfl, kt (List.mem_append_left _ (List.mem_of_getElem? (i := 54) rfl)) rfl, Or.inl rfl, Or.inr ⟨rfl, rfl, rfl⟩⟩
set_option maxRecDepth 100000 in
theorem kf_BC_26_0 : kFld RBC 26 0 1 := ⟨RBC, TBC, 4, "CipherModes$BlockCipher", rfl, by decide, kuBC, Or.inl (kt (List.mem_append_left _ (List.mem_of_getElem? (i := 55) rfl)) rfl), Or.inl rfl⟩
set_option maxRecDepth 100000 in
theorem kp_BC_26_0_t : kPutW true RBC 26 0 1 (.array .int) := ⟨RBC, TBC, 4, "CipherModes$BlockCipher", tyBC, rfl, by decide, kuBC, tyoBC, nmBC, rfl, kt (List.mem_append_left _ (List.mem_of_getElem? (i := 55) rfl)) rfl, Or.inl rfl, Or.inr ⟨rfl, rfl, rfl⟩⟩
set_option maxRecDepth 100000 in
theorem kf_BC_9_0 : kFld RBC 9 0 2 := ⟨RBC, TBC, 4, "CipherModes$BlockCipher", rfl, by decide, kuBC, Or.inl (kt (List.mem_append_left _ (List.mem_of_getElem? (i := 56) rfl)) rfl), Or.inl rfl⟩
set_option maxRecDepth 100000 in
theorem kp_BC_9_0_t : kPutW true RBC 9 0 2 (.array .int) := ⟨RBC, TBC, 4, "CipherModes$BlockCipher", tyBC, rfl, by decide, kuBC, tyoBC, nmBC, rfl, kt (List.mem_append_left _ (List.mem_of_getElem? (i := 56) rfl)) rfl, Or.inl rfl, Or.inr ⟨rfl, rfl, rfl⟩⟩
set_option maxRecDepth 100000 in
theorem kf_BC_13_0 : kFld RBC 13 0 3 := ⟨RBC, TBC, 4, "CipherModes$BlockCipher", rfl, by decide, kuBC, Or.inl (kt (List.mem_append_left _ (List.mem_of_getElem? (i := 57) rfl)) rfl), Or.inl rfl⟩
set_option maxRecDepth 100000 in
theorem kp_BC_13_0_f : kPutW false RBC 13 0 3 (.int) := ⟨RBC, TBC, 4, "CipherModes$BlockCipher", tyBC, rfl, by decide, kuBC, tyoBC, nmBC, rfl, kt (List.mem_append_left _ (List.mem_of_getElem? (i := 57) rfl)) rfl, Or.inl rfl, Or.inl rfl⟩
set_option maxRecDepth 100000 in
theorem kp_BC_13_0_t : kPutW true RBC 13 0 3 (.int) := ⟨RBC, TBC, 4, "CipherModes$BlockCipher", tyBC, rfl, by decide, kuBC, tyoBC, nmBC, rfl, kt (List.mem_append_left _ (List.mem_of_getElem? (i := 57) rfl)) rfl, Or.inl rfl, Or.inl rfl⟩
set_option maxRecDepth 100000 in
theorem kf_OU_9_3 : kFld ROU 9 3 0 := ⟨ROU, TOU, 2, "CipherModes$Output", rfl, by decide, kuOU, Or.inl (kt (List.mem_append_left _ (List.mem_of_getElem? (i := 73) rfl)) rfl), Or.inl rfl⟩
set_option maxRecDepth 100000 in
theorem kp_OU_9_3_t : kPutW true ROU 9 3 0 (.array .int) := ⟨ROU, TOU, 2, "CipherModes$Output", tyOU, rfl, by decide, kuOU, tyoOU, nmOU, rfl, kt (List.mem_append_left _ (List.mem_of_getElem? (i := 73) rfl)) rfl, Or.inl rfl, Or.inr ⟨rfl, rfl, rfl⟩⟩
set_option maxRecDepth 100000 in
theorem kf_OU_15_3 : kFld ROU 15 3 1 := ⟨ROU, TOU, 2, "CipherModes$Output", rfl, by decide, kuOU, Or.inl (kt (List.mem_append_left _ (List.mem_of_getElem? (i := 74) rfl)) rfl), Or.inl rfl⟩
set_option maxRecDepth 100000 in
theorem kp_OU_15_3_f : kPutW false ROU 15 3 1 (.int) := ⟨ROU, TOU, 2, "CipherModes$Output", tyOU, rfl, by decide, kuOU, tyoOU, nmOU, rfl, kt (List.mem_append_left _ (List.mem_of_getElem? (i := 74) rfl)) rfl, Or.inl rfl, Or.inl rfl⟩
set_option maxRecDepth 100000 in
theorem kp_OU_15_3_t : kPutW true ROU 15 3 1 (.int) := ⟨ROU, TOU, 2, "CipherModes$Output", tyOU, rfl, by decide, kuOU, tyoOU, nmOU, rfl, kt (List.mem_append_left _ (List.mem_of_getElem? (i := 74) rfl)) rfl, Or.inl rfl, Or.inl rfl⟩
set_option maxRecDepth 100000 in
theorem kf_CH_9_2 : kFld RCH 9 2 0 := ⟨RCH, TCH, 10, "CipherModes$ChainedMode", rfl, by decide, kuCH, Or.inl (kt (List.mem_append_left _ (List.mem_of_getElem? (i := 92) rfl)) rfl), Or.inl rfl⟩
set_option maxRecDepth 100000 in
theorem kp_CH_9_2_t : kPutW true RCH 9 2 0 (.array .int) := ⟨RCH, TCH, 10, "CipherModes$ChainedMode", tyCH, rfl, by decide, kuCH, tyoCH, nmCH, rfl, kt (List.mem_append_left _ (List.mem_of_getElem? (i := 92) rfl)) rfl, Or.inl rfl, Or.inr ⟨rfl, rfl, rfl⟩⟩
set_option maxRecDepth 100000 in
theorem kf_CH_9_4 : kFld RCH 9 4 0 := ⟨RST, TST, 10, "CipherModes$ChainedMode", rfl, by decide, kuST, Or.inl (kt (List.mem_append_left _ (List.mem_of_getElem? (i := 92) rfl)) rfl), Or.inl rfl⟩
set_option maxRecDepth 100000 in
theorem kp_CH_9_4_t : kPutW true RCH 9 4 0 (.array .int) := ⟨RST, TST, 10, "CipherModes$ChainedMode", tyST, rfl, by decide, kuST, tyoST, nmST, rfl, kt (List.mem_append_left _ (List.mem_of_getElem? (i := 92) rfl)) rfl, Or.inl rfl, Or.inr ⟨rfl, rfl, rfl⟩⟩
set_option maxRecDepth 100000 in
theorem kf_BM_11_2 : kFld RBM 11 2 1 := ⟨RCH, TCH, 10, "CipherModes$BlockMode", rfl, by decide, kuCH, Or.inl (kt (List.mem_append_left _ (List.mem_of_getElem? (i := 93) rfl)) rfl), Or.inl rfl⟩
set_option maxRecDepth 100000 in
theorem kp_BM_11_2_t : kPutW true RBM 11 2 1 (.array .int) := ⟨RCH, TCH, 10, "CipherModes$BlockMode", tyCH, rfl, by decide, kuCH, tyoCH, nmCH, rfl, kt (List.mem_append_left _ (List.mem_of_getElem? (i := 93) rfl)) rfl, Or.inl rfl, Or.inr ⟨rfl, rfl, rfl⟩⟩
set_option maxRecDepth 100000 in
theorem kf_BM_11_4 : kFld RBM 11 4 1 := ⟨RST, TST, 10, "CipherModes$BlockMode", rfl, by decide, kuST, Or.inl (kt (List.mem_append_left _ (List.mem_of_getElem? (i := 93) rfl)) rfl), Or.inl rfl⟩
set_option maxRecDepth 100000 in
theorem kp_BM_11_4_t : kPutW true RBM 11 4 1 (.array .int) := ⟨RST, TST, 10, "CipherModes$BlockMode", tyST, rfl, by decide, kuST, tyoST, nmST, rfl, kt (List.mem_append_left _ (List.mem_of_getElem? (i := 93) rfl)) rfl, Or.inl rfl, Or.inr ⟨rfl, rfl, rfl⟩⟩
set_option maxRecDepth 100000 in
theorem kf_BM_11_6 : kFld RBM 11 6 1 := ⟨RTW, TTW, 10, "CipherModes$BlockMode", rfl, by decide, kuTW, Or.inl (kt (List.mem_append_left _ (List.mem_of_getElem? (i := 93) rfl)) rfl), Or.inl rfl⟩
set_option maxRecDepth 100000 in
theorem kp_BM_11_6_t : kPutW true RBM 11 6 1 (.array .int) := ⟨RTW, TTW, 10, "CipherModes$BlockMode", tyTW, rfl, by decide, kuTW, tyoTW, nmTW, rfl, kt (List.mem_append_left _ (List.mem_of_getElem? (i := 93) rfl)) rfl, Or.inl rfl, Or.inr ⟨rfl, rfl, rfl⟩⟩
set_option maxRecDepth 100000 in
theorem kf_ST_35_2 : kFld RST 35 2 1 := ⟨RCH, TCH, 10, "CipherModes$StolenMode", rfl, by decide, kuCH, Or.inl (kt (List.mem_append_left _ (List.mem_of_getElem? (i := 94) rfl)) rfl), Or.inr (kt (List.mem_append_left _ (List.mem_of_getElem? (i := 95) rfl)) rfl)⟩
set_option maxRecDepth 100000 in
theorem kf_ST_35_4 : kFld RST 35 4 1 := ⟨RST, TST, 10, "CipherModes$StolenMode", rfl, by decide, kuST, Or.inl (kt (List.mem_append_left _ (List.mem_of_getElem? (i := 94) rfl)) rfl), Or.inr (kt (List.mem_append_left _ (List.mem_of_getElem? (i := 95) rfl)) rfl)⟩
set_option maxRecDepth 100000 in
theorem kf_ST_35_6 : kFld RST 35 6 1 := ⟨RTW, TTW, 10, "CipherModes$StolenMode", rfl, by decide, kuTW, Or.inl (kt (List.mem_append_left _ (List.mem_of_getElem? (i := 94) rfl)) rfl), Or.inr (kt (List.mem_append_left _ (List.mem_of_getElem? (i := 95) rfl)) rfl)⟩
set_option maxRecDepth 100000 in
theorem kf_CH_66_2 : kFld RCH 66 2 1 := ⟨RCH, TCH, 10, "CipherModes$ChainedMode", rfl, by decide, kuCH, Or.inl (kt (List.mem_append_left _ (List.mem_of_getElem? (i := 96) rfl)) rfl), Or.inr (kt (List.mem_append_left _ (List.mem_of_getElem? (i := 97) rfl)) rfl)⟩
set_option maxRecDepth 100000 in
theorem kf_CH_66_4 : kFld RCH 66 4 1 := ⟨RST, TST, 10, "CipherModes$ChainedMode", rfl, by decide, kuST, Or.inl (kt (List.mem_append_left _ (List.mem_of_getElem? (i := 96) rfl)) rfl), Or.inr (kt (List.mem_append_left _ (List.mem_of_getElem? (i := 97) rfl)) rfl)⟩
set_option maxRecDepth 100000 in
theorem kf_CH_66_6 : kFld RCH 66 6 1 := ⟨RTW, TTW, 10, "CipherModes$ChainedMode", rfl, by decide, kuTW, Or.inl (kt (List.mem_append_left _ (List.mem_of_getElem? (i := 96) rfl)) rfl), Or.inr (kt (List.mem_append_left _ (List.mem_of_getElem? (i := 97) rfl)) rfl)⟩
set_option maxRecDepth 100000 in
theorem kf_TW_57_2 : kFld RTW 57 2 1 := ⟨RCH, TCH, 10, "CipherModes$TweakedMode", rfl, by decide, kuCH, Or.inl (kt (List.mem_append_left _ (List.mem_of_getElem? (i := 98) rfl)) rfl), Or.inr (kt (List.mem_append_left _ (List.mem_of_getElem? (i := 99) rfl)) rfl)⟩
set_option maxRecDepth 100000 in
theorem kf_TW_57_4 : kFld RTW 57 4 1 := ⟨RST, TST, 10, "CipherModes$TweakedMode", rfl, by decide, kuST, Or.inl (kt (List.mem_append_left _ (List.mem_of_getElem? (i := 98) rfl)) rfl), Or.inr (kt (List.mem_append_left _ (List.mem_of_getElem? (i := 99) rfl)) rfl)⟩
set_option maxRecDepth 100000 in
theorem kf_TW_57_6 : kFld RTW 57 6 1 := ⟨RTW, TTW, 10, "CipherModes$TweakedMode", rfl, by decide, kuTW, Or.inl (kt (List.mem_append_left _ (List.mem_of_getElem? (i := 98) rfl)) rfl), Or.inr (kt (List.mem_append_left _ (List.mem_of_getElem? (i := 99) rfl)) rfl)⟩
set_option maxRecDepth 100000 in
theorem kf_BM_15_2 : kFld RBM 15 2 2 := ⟨RCH, TCH, 10, "CipherModes$BlockMode", rfl, by decide, kuCH, Or.inl (kt (List.mem_append_left _ (List.mem_of_getElem? (i := 100) rfl)) rfl), Or.inl rfl⟩
set_option maxRecDepth 100000 in
theorem kp_BM_15_2_f : kPutW false RBM 15 2 2 (.int) := ⟨RCH, TCH, 10, "CipherModes$BlockMode", tyCH, rfl, by decide, kuCH, tyoCH, nmCH, rfl, kt (List.mem_append_left _ (List.mem_of_getElem? (i := 100) rfl)) rfl, Or.inl rfl, Or.inl rfl⟩
set_option maxRecDepth 100000 in
theorem kp_BM_15_2_t : kPutW true RBM 15 2 2 (.int) := ⟨RCH, TCH, 10, "CipherModes$BlockMode", tyCH, rfl, by decide, kuCH, tyoCH, nmCH, rfl, kt (List.mem_append_left _ (List.mem_of_getElem? (i := 100) rfl)) rfl, Or.inl rfl, Or.inl rfl⟩
set_option maxRecDepth 100000 in
theorem kf_BM_15_4 : kFld RBM 15 4 2 := ⟨RST, TST, 10, "CipherModes$BlockMode", rfl, by decide, kuST, Or.inl (kt (List.mem_append_left _ (List.mem_of_getElem? (i := 100) rfl)) rfl), Or.inl rfl⟩
set_option maxRecDepth 100000 in
theorem kp_BM_15_4_f : kPutW false RBM 15 4 2 (.int) := ⟨RST, TST, 10, "CipherModes$BlockMode", tyST, rfl, by decide, kuST, tyoST, nmST, rfl, kt (List.mem_append_left _ (List.mem_of_getElem? (i := 100) rfl)) rfl, Or.inl rfl, Or.inl rfl⟩
set_option maxRecDepth 100000 in
theorem kp_BM_15_4_t : kPutW true RBM 15 4 2 (.int) := ⟨RST, TST, 10, "CipherModes$BlockMode", tyST, rfl, by decide, kuST, tyoST, nmST, rfl, kt (List.mem_append_left _ (List.mem_of_getElem? (i := 100) rfl)) rfl, Or.inl rfl, Or.inl rfl⟩
set_option maxRecDepth 100000 in
theorem kf_BM_15_6 : kFld RBM 15 6 2 := ⟨RTW, TTW, 10, "CipherModes$BlockMode", rfl, by decide, kuTW, Or.inl (kt (List.mem_append_left _ (List.mem_of_getElem? (i := 100) rfl)) rfl), Or.inl rfl⟩
set_option maxRecDepth 100000 in
theorem kp_BM_15_6_f : kPutW false RBM 15 6 2 (.int) := ⟨RTW, TTW, 10, "CipherModes$BlockMode", tyTW, rfl, by decide, kuTW, tyoTW, nmTW, rfl, kt (List.mem_append_left _ (List.mem_of_getElem? (i := 100) rfl)) rfl, Or.inl rfl, Or.inl rfl⟩
set_option maxRecDepth 100000 in
theorem kp_BM_15_6_t : kPutW true RBM 15 6 2 (.int) := ⟨RTW, TTW, 10, "CipherModes$BlockMode", tyTW, rfl, by decide, kuTW, tyoTW, nmTW, rfl, kt (List.mem_append_left _ (List.mem_of_getElem? (i := 100) rfl)) rfl, Or.inl rfl, Or.inl rfl⟩
set_option maxRecDepth 100000 in
theorem kf_ST_11_2 : kFld RST 11 2 2 := ⟨RCH, TCH, 10, "CipherModes$StolenMode", rfl, by decide, kuCH, Or.inl (kt (List.mem_append_left _ (List.mem_of_getElem? (i := 101) rfl)) rfl), Or.inr (kt (List.mem_append_left _ (List.mem_of_getElem? (i := 102) rfl)) rfl)⟩
set_option maxRecDepth 100000 in
theorem kf_ST_11_4 : kFld RST 11 4 2 := ⟨RST, TST, 10, "CipherModes$StolenMode", rfl, by decide, kuST, Or.inl (kt (List.mem_append_left _ (List.mem_of_getElem? (i := 101) rfl)) rfl), Or.inr (kt (List.mem_append_left _ (List.mem_of_getElem? (i := 102) rfl)) rfl)⟩
set_option maxRecDepth 100000 in
theorem kf_ST_11_6 : kFld RST 11 6 2 := ⟨RTW, TTW, 10, "CipherModes$StolenMode", rfl, by decide, kuTW, Or.inl (kt (List.mem_append_left _ (List.mem_of_getElem? (i := 101) rfl)) rfl), Or.inr (kt (List.mem_append_left _ (List.mem_of_getElem? (i := 102) rfl)) rfl)⟩
set_option maxRecDepth 100000 in
theorem kf_CH_52_2 : kFld RCH 52 2 2 := ⟨RCH, TCH, 10, "CipherModes$ChainedMode", rfl, by decide, kuCH, Or.inl (kt (List.mem_append_left _ (List.mem_of_getElem? (i := 103) rfl)) rfl), Or.inr (kt (List.mem_append_left _ (List.mem_of_getElem? (i := 104) rfl)) rfl)⟩
set_option maxRecDepth 100000 in
theorem kp_CH_52_2_f : kPutW false RCH 52 2 2 (.int) := ⟨RCH, TCH, 10, "CipherModes$ChainedMode", tyCH, rfl, by decide, kuCH, tyoCH, nmCH, rfl, kt (List.mem_append_left _ (List.mem_of_getElem? (i := 103) rfl)) rfl, Or.inr (kt (List.mem_append_left _ (List.mem_of_getElem? (i := 104) rfl)) rfl), Or.inl rfl⟩
set_option maxRecDepth 100000 in
theorem kp_CH_52_2_t : kPutW true RCH 52 2 2 (.int) := ⟨RCH, TCH, 10, "CipherModes$ChainedMode", tyCH, rfl, by decide, kuCH, tyoCH, nmCH, rfl, kt (List.mem_append_left _ (List.mem_of_getElem? (i := 103) rfl)) rfl, Or.inr (kt (List.mem_append_left _ (List.mem_of_getElem? (i := 104) rfl)) rfl), Or.inl rfl⟩
set_option maxRecDepth 100000 in
theorem kf_CH_52_4 : kFld RCH 52 4 2 := ⟨RST, TST, 10, "CipherModes$ChainedMode", rfl, by decide, kuST, Or.inl (kt (List.mem_append_left _ (List.mem_of_getElem? (i := 103) rfl)) rfl), Or.inr (kt (List.mem_append_left _ (List.mem_of_getElem? (i := 104) rfl)) rfl)⟩
set_option maxRecDepth 100000 in
theorem kp_CH_52_4_f : kPutW false RCH 52 4 2 (.int) := ⟨RST, TST, 10, "CipherModes$ChainedMode", tyST, rfl, by decide, kuST, tyoST, nmST, rfl, kt (List.mem_append_left _ (List.mem_of_getElem? (i := 103) rfl)) rfl, Or.inr (kt (List.mem_append_left _ (List.mem_of_getElem? (i := 104) rfl)) rfl), Or.inl rfl⟩
set_option maxRecDepth 100000 in
theorem kp_CH_52_4_t : kPutW true RCH 52 4 2 (.int) := ⟨RST, TST, 10, "CipherModes$ChainedMode", tyST, rfl, by decide, kuST, tyoST, nmST, rfl, kt (List.mem_append_left _ (List.mem_of_getElem? (i := 103) rfl)) rfl, Or.inr (kt (List.mem_append_left _ (List.mem_of_getElem? (i := 104) rfl)) rfl), Or.inl rfl⟩
set_option maxRecDepth 100000 in
theorem kf_CH_52_6 : kFld RCH 52 6 2 := ⟨RTW, TTW, 10, "CipherModes$ChainedMode", rfl, by decide, kuTW, Or.inl (kt (List.mem_append_left _ (List.mem_of_getElem? (i := 103) rfl)) rfl), Or.inr (kt (List.mem_append_left _ (List.mem_of_getElem? (i := 104) rfl)) rfl)⟩
set_option maxRecDepth 100000 in
theorem kp_CH_52_6_f : kPutW false RCH 52 6 2 (.int) := ⟨RTW, TTW, 10, "CipherModes$ChainedMode", tyTW, rfl, by decide, kuTW, tyoTW, nmTW, rfl, kt (List.mem_append_left _ (List.mem_of_getElem? (i := 103) rfl)) rfl, Or.inr (kt (List.mem_append_left _ (List.mem_of_getElem? (i := 104) rfl)) rfl), Or.inl rfl⟩
set_option maxRecDepth 100000 in
theorem kp_CH_52_6_t : kPutW true RCH 52 6 2 (.int) := ⟨RTW, TTW, 10, "CipherModes$ChainedMode", tyTW, rfl, by decide, kuTW, tyoTW, nmTW, rfl, kt (List.mem_append_left _ (List.mem_of_getElem? (i := 103) rfl)) rfl, Or.inr (kt (List.mem_append_left _ (List.mem_of_getElem? (i := 104) rfl)) rfl), Or.inl rfl⟩
set_option maxRecDepth 100000 in
theorem kf_TW_42_2 : kFld RTW 42 2 2 := ⟨RCH, TCH, 10, "CipherModes$TweakedMode", rfl, by decide, kuCH, Or.inl (kt (List.mem_append_left _ (List.mem_of_getElem? (i := 105) rfl)) rfl), Or.inr (kt (List.mem_append_left _ (List.mem_of_getElem? (i := 106) rfl)) rfl)⟩
set_option maxRecDepth 100000 in
theorem kf_TW_42_4 : kFld RTW 42 4 2 := ⟨RST, TST, 10, "CipherModes$TweakedMode", rfl, by decide, kuST, Or.inl (kt (List.mem_append_left _ (List.mem_of_getElem? (i := 105) rfl)) rfl), Or.inr (kt (List.mem_append_left _ (List.mem_of_getElem? (i := 106) rfl)) rfl)⟩
set_option maxRecDepth 100000 in
theorem kf_TW_42_6 : kFld RTW 42 6 2 := ⟨RTW, TTW, 10, "CipherModes$TweakedMode", rfl, by decide, kuTW, Or.inl (kt (List.mem_append_left _ (List.mem_of_getElem? (i := 105) rfl)) rfl), Or.inr (kt (List.mem_append_left _ (List.mem_of_getElem? (i := 106) rfl)) rfl)⟩
set_option maxRecDepth 100000 in
theorem kf_BM_19_2 : kFld RBM 19 2 3 := ⟨RCH, TCH, 10, "CipherModes$BlockMode", rfl, by decide, kuCH, Or.inl (kt (List.mem_append_left _ (List.mem_of_getElem? (i := 107) rfl)) rfl), Or.inl rfl⟩
set_option maxRecDepth 100000 in
theorem kp_BM_19_2_t : kPutW true RBM 19 2 3 (.array .int) := ⟨RCH, TCH, 10, "CipherModes$BlockMode", tyCH, rfl, by decide, kuCH, tyoCH, nmCH, rfl, kt (List.mem_append_left _ (List.mem_of_getElem? (i := 107) rfl)) rfl, Or.inl rfl, Or.inr ⟨rfl, rfl, rfl⟩⟩
set_option maxRecDepth 100000 in
theorem kf_BM_19_4 : kFld RBM 19 4 3 := ⟨RST, TST, 10, "CipherModes$BlockMode", rfl, by decide, kuST, Or.inl (kt (List.mem_append_left _ (List.mem_of_getElem? (i := 107) rfl)) rfl), Or.inl rfl⟩
set_option maxRecDepth 100000 in
theorem kp_BM_19_4_t : kPutW true RBM 19 4 3 (.array .int) := ⟨RST, TST, 10, "CipherModes$BlockMode", tyST, rfl, by decide, kuST, tyoST, nmST, rfl, kt (List.mem_append_left _ (List.mem_of_getElem? (i := 107) rfl)) rfl, Or.inl rfl, Or.inr ⟨rfl, rfl, rfl⟩⟩
set_option maxRecDepth 100000 in
theorem kf_BM_19_6 : kFld RBM 19 6 3 := ⟨RTW, TTW, 10, "CipherModes$BlockMode", rfl, by decide, kuTW, Or.inl (kt (List.mem_append_left _ (List.mem_of_getElem? (i := 107) rfl)) rfl), Or.inl rfl⟩
set_option maxRecDepth 100000 in
theorem kp_BM_19_6_t : kPutW true RBM 19 6 3 (.array .int) := ⟨RTW, TTW, 10, "CipherModes$BlockMode", tyTW, rfl, by decide, kuTW, tyoTW, nmTW, rfl, kt (List.mem_append_left _ (List.mem_of_getElem? (i := 107) rfl)) rfl, Or.inl rfl, Or.inr ⟨rfl, rfl, rfl⟩⟩
set_option maxRecDepth 100000 in
theorem kf_ST_39_2 : kFld RST 39 2 3 := ⟨RCH, TCH, 10, "CipherModes$StolenMode", rfl, by decide, kuCH, Or.inl (kt (List.mem_append_left _ (List.mem_of_getElem? (i := 108) rfl)) rfl), Or.inr (kt (List.mem_append_left _ (List.mem_of_getElem? (i := 109) rfl)) rfl)⟩
set_option maxRecDepth 100000 in
theorem kf_ST_39_4 : kFld RST 39 4 3 := ⟨RST, TST, 10, "CipherModes$StolenMode", rfl, by decide, kuST, Or.inl (kt (List.mem_append_left _ (List.mem_of_getElem? (i := 108) rfl)) rfl), Or.inr (kt (List.mem_append_left _ (List.mem_of_getElem? (i := 109) rfl)) rfl)⟩
set_option maxRecDepth 100000 in
theorem kf_ST_39_6 : kFld RST 39 6 3 := ⟨RTW, TTW, 10, "CipherModes$StolenMode", rfl, by decide, kuTW, Or.inl (kt (List.mem_append_left _ (List.mem_of_getElem? (i := 108) rfl)) rfl), Or.inr (kt (List.mem_append_left _ (List.mem_of_getElem? (i := 109) rfl)) rfl)⟩
set_option maxRecDepth 100000 in
theorem kf_CH_69_2 : kFld RCH 69 2 3 := ⟨RCH, TCH, 10, "CipherModes$ChainedMode", rfl, by decide, kuCH, Or.inl (kt (List.mem_append_left _ (List.mem_of_getElem? (i := 110) rfl)) rfl), Or.inr (kt (List.mem_append_left _ (List.mem_of_getElem? (i := 111) rfl)) rfl)⟩
set_option maxRecDepth 100000 in
theorem kf_CH_69_4 : kFld RCH 69 4 3 := ⟨RST, TST, 10, "CipherModes$ChainedMode", rfl, by decide, kuST, Or.inl (kt (List.mem_append_left _ (List.mem_of_getElem? (i := 110) rfl)) rfl), Or.inr (kt (List.mem_append_left _ (List.mem_of_getElem? (i := 111) rfl)) rfl)⟩
set_option maxRecDepth 100000 in
theorem kf_CH_69_6 : kFld RCH 69 6 3 := ⟨RTW, TTW, 10, "CipherModes$ChainedMode", rfl, by decide, kuTW, Or.inl (kt (List.mem_append_left _ (List.mem_of_getElem? (i := 110) rfl)) rfl), Or.inr (kt (List.mem_append_left _ (List.mem_of_getElem? (i := 111) rfl)) rfl)⟩
set_option maxRecDepth 100000 in
theorem kf_TW_60_2 : kFld RTW 60 2 3 := ⟨RCH, TCH, 10, "CipherModes$TweakedMode", rfl, by decide, kuCH, Or.inl (kt (List.mem_append_left _ (List.mem_of_getElem? (i := 112) rfl)) rfl), Or.inr (kt (List.mem_append_left _ (List.mem_of_getElem? (i := 113) rfl)) rfl)⟩
set_option maxRecDepth 100000 in
theorem kf_TW_60_4 : kFld RTW 60 4 3 := ⟨RST, TST, 10, "CipherModes$TweakedMode", rfl, by decide, kuST, Or.inl (kt (List.mem_append_left _ (List.mem_of_getElem? (i := 112) rfl)) rfl), Or.inr (kt (List.mem_append_left _ (List.mem_of_getElem? (i := 113) rfl)) rfl)⟩
set_option maxRecDepth 100000 in
theorem kf_TW_60_6 : kFld RTW 60 6 3 := ⟨RTW, TTW, 10, "CipherModes$TweakedMode", rfl, by decide, kuTW, Or.inl (kt (List.mem_append_left _ (List.mem_of_getElem? (i := 112) rfl)) rfl), Or.inr (kt (List.mem_append_left _ (List.mem_of_getElem? (i := 113) rfl)) rfl)⟩
set_option maxRecDepth 100000 in
theorem kf_BM_22_2 : kFld RBM 22 2 4 := ⟨RCH, TCH, 10, "CipherModes$BlockMode", rfl, by decide, kuCH, Or.inl (kt (List.mem_append_left _ (List.mem_of_getElem? (i := 114) rfl)) rfl), Or.inl rfl⟩
set_option maxRecDepth 100000 in
theorem kp_BM_22_2_t : kPutW true RBM 22 2 4 (.array .int) := ⟨RCH, TCH, 10, "CipherModes$BlockMode", tyCH, rfl, by decide, kuCH, tyoCH, nmCH, rfl, kt (List.mem_append_left _ (List.mem_of_getElem? (i := 114) rfl)) rfl, Or.inl rfl, Or.inr ⟨rfl, rfl, rfl⟩⟩
set_option maxRecDepth 100000 in
theorem kf_BM_22_4 : kFld RBM 22 4 4 := ⟨RST, TST, 10, "CipherModes$BlockMode", rfl, by decide, kuST, Or.inl (kt (List.mem_append_left _ (List.mem_of_getElem? (i := 114) rfl)) rfl), Or.inl rfl⟩
set_option maxRecDepth 100000 in
theorem kp_BM_22_4_t : kPutW true RBM 22 4 4 (.array .int) := ⟨RST, TST, 10, "CipherModes$BlockMode", tyST, rfl, by decide, kuST, tyoST, nmST, rfl, kt (List.mem_append_left _ (List.mem_of_getElem? (i := 114) rfl)) rfl, Or.inl rfl, Or.inr ⟨rfl, rfl, rfl⟩⟩
set_option maxRecDepth 100000 in
theorem kf_BM_22_6 : kFld RBM 22 6 4 := ⟨RTW, TTW, 10, "CipherModes$BlockMode", rfl, by decide, kuTW, Or.inl (kt (List.mem_append_left _ (List.mem_of_getElem? (i := 114) rfl)) rfl), Or.inl rfl⟩
set_option maxRecDepth 100000 in
theorem kp_BM_22_6_t : kPutW true RBM 22 6 4 (.array .int) := ⟨RTW, TTW, 10, "CipherModes$BlockMode", tyTW, rfl, by decide, kuTW, tyoTW, nmTW, rfl, kt (List.mem_append_left _ (List.mem_of_getElem? (i := 114) rfl)) rfl, Or.inl rfl, Or.inr ⟨rfl, rfl, rfl⟩⟩
set_option maxRecDepth 100000 in
theorem kf_ST_52_2 : kFld RST 52 2 4 := ⟨RCH, TCH, 10, "CipherModes$StolenMode", rfl, by decide, kuCH, Or.inl (kt (List.mem_append_left _ (List.mem_of_getElem? (i := 115) rfl)) rfl), Or.inr (kt (List.mem_append_left _ (List.mem_of_getElem? (i := 116) rfl)) rfl)⟩
set_option maxRecDepth 100000 in
theorem kf_ST_52_4 : kFld RST 52 4 4 := ⟨RST, TST, 10, "CipherModes$StolenMode", rfl, by decide, kuST, Or.inl (kt (List.mem_append_left _ (List.mem_of_getElem? (i := 115) rfl)) rfl), Or.inr (kt (List.mem_append_left _ (List.mem_of_getElem? (i := 116) rfl)) rfl)⟩
set_option maxRecDepth 100000 in
theorem kf_ST_52_6 : kFld RST 52 6 4 := ⟨RTW, TTW, 10, "CipherModes$StolenMode", rfl, by decide, kuTW, Or.inl (kt (List.mem_append_left _ (List.mem_of_getElem? (i := 115) rfl)) rfl), Or.inr (kt (List.mem_append_left _ (List.mem_of_getElem? (i := 116) rfl)) rfl)⟩
set_option maxRecDepth 100000 in
theorem kf_TW_66_2 : kFld RTW 66 2 4 := ⟨RCH, TCH, 10, "CipherModes$TweakedMode", rfl, by decide, kuCH, Or.inl (kt (List.mem_append_left _ (List.mem_of_getElem? (i := 117) rfl)) rfl), Or.inr (kt (List.mem_append_left _ (List.mem_of_getElem? (i := 118) rfl)) rfl)⟩
set_option maxRecDepth 100000 in
theorem kf_TW_66_4 : kFld RTW 66 4 4 := ⟨RST, TST, 10, "CipherModes$TweakedMode", rfl, by decide, kuST, Or.inl (kt (List.mem_append_left _ (List.mem_of_getElem? (i := 117) rfl)) rfl), Or.inr (kt (List.mem_append_left _ (List.mem_of_getElem? (i := 118) rfl)) rfl)⟩
set_option maxRecDepth 100000 in
theorem kf_TW_66_6 : kFld RTW 66 6 4 := ⟨RTW, TTW, 10, "CipherModes$TweakedMode", rfl, by decide, kuTW, Or.inl (kt (List.mem_append_left _ (List.mem_of_getElem? (i := 117) rfl)) rfl), Or.inr (kt (List.mem_append_left _ (List.mem_of_getElem? (i := 118) rfl)) rfl)⟩
set_option maxRecDepth 100000 in
theorem kf_MO_23_2 : kFld RMO 23 2 5 := ⟨RCH, TCH, 10, "CipherModes$Mode", rfl, by decide, kuCH, Or.inl (kt (List.mem_append_left _ (List.mem_of_getElem? (i := 119) rfl)) rfl), Or.inl rfl⟩
set_option maxRecDepth 100000 in
theorem kp_MO_23_2_t : kPutW true RMO 23 2 5 (.object "CipherModes$BlockCipher") := ⟨RCH, TCH, 10, "CipherModes$Mode", tyCH, rfl, by decide, kuCH, tyoCH, nmCH, rfl, kt (List.mem_append_left _ (List.mem_of_getElem? (i := 119) rfl)) rfl, Or.inl rfl, Or.inr ⟨rfl, rfl, rfl⟩⟩
set_option maxRecDepth 100000 in
theorem kf_MO_23_4 : kFld RMO 23 4 5 := ⟨RST, TST, 10, "CipherModes$Mode", rfl, by decide, kuST, Or.inl (kt (List.mem_append_left _ (List.mem_of_getElem? (i := 119) rfl)) rfl), Or.inl rfl⟩
set_option maxRecDepth 100000 in
theorem kp_MO_23_4_t : kPutW true RMO 23 4 5 (.object "CipherModes$BlockCipher") := ⟨RST, TST, 10, "CipherModes$Mode", tyST, rfl, by decide, kuST, tyoST, nmST, rfl, kt (List.mem_append_left _ (List.mem_of_getElem? (i := 119) rfl)) rfl, Or.inl rfl, Or.inr ⟨rfl, rfl, rfl⟩⟩
set_option maxRecDepth 100000 in
theorem kf_MO_23_5 : kFld RMO 23 5 2 := ⟨RSM, TSM, 7, "CipherModes$Mode", rfl, by decide, kuSM, Or.inl (kt (List.mem_append_left _ (List.mem_of_getElem? (i := 119) rfl)) rfl), Or.inl rfl⟩
set_option maxRecDepth 100000 in
theorem kp_MO_23_5_t : kPutW true RMO 23 5 2 (.object "CipherModes$BlockCipher") := ⟨RSM, TSM, 7, "CipherModes$Mode", tySM, rfl, by decide, kuSM, tyoSM, nmSM, rfl, kt (List.mem_append_left _ (List.mem_of_getElem? (i := 119) rfl)) rfl, Or.inl rfl, Or.inr ⟨rfl, rfl, rfl⟩⟩
set_option maxRecDepth 100000 in
theorem kf_MO_23_6 : kFld RMO 23 6 5 := ⟨RTW, TTW, 10, "CipherModes$Mode", rfl, by decide, kuTW, Or.inl (kt (List.mem_append_left _ (List.mem_of_getElem? (i := 119) rfl)) rfl), Or.inl rfl⟩
set_option maxRecDepth 100000 in
theorem kp_MO_23_6_t : kPutW true RMO 23 6 5 (.object "CipherModes$BlockCipher") := ⟨RTW, TTW, 10, "CipherModes$Mode", tyTW, rfl, by decide, kuTW, tyoTW, nmTW, rfl, kt (List.mem_append_left _ (List.mem_of_getElem? (i := 119) rfl)) rfl, Or.inl rfl, Or.inr ⟨rfl, rfl, rfl⟩⟩
set_option maxRecDepth 100000 in
theorem kf_CH_23_2 : kFld RCH 23 2 5 := ⟨RCH, TCH, 10, "CipherModes$ChainedMode", rfl, by decide, kuCH, Or.inl (kt (List.mem_append_left _ (List.mem_of_getElem? (i := 120) rfl)) rfl), Or.inr (kt (List.mem_append_left _ (List.mem_of_getElem? (i := 121) rfl)) rfl)⟩
set_option maxRecDepth 100000 in
theorem kf_CH_23_4 : kFld RCH 23 4 5 := ⟨RST, TST, 10, "CipherModes$ChainedMode", rfl, by decide, kuST, Or.inl (kt (List.mem_append_left _ (List.mem_of_getElem? (i := 120) rfl)) rfl), Or.inr (kt (List.mem_append_left _ (List.mem_of_getElem? (i := 121) rfl)) rfl)⟩
set_option maxRecDepth 100000 in
theorem kf_CH_23_5 : kFld RCH 23 5 2 := ⟨RSM, TSM, 7, "CipherModes$ChainedMode", rfl, by decide, kuSM, Or.inl (kt (List.mem_append_left _ (List.mem_of_getElem? (i := 120) rfl)) rfl), Or.inr (kt (List.mem_append_left _ (List.mem_of_getElem? (i := 121) rfl)) rfl)⟩
set_option maxRecDepth 100000 in
theorem kf_CH_23_6 : kFld RCH 23 6 5 := ⟨RTW, TTW, 10, "CipherModes$ChainedMode", rfl, by decide, kuTW, Or.inl (kt (List.mem_append_left _ (List.mem_of_getElem? (i := 120) rfl)) rfl), Or.inr (kt (List.mem_append_left _ (List.mem_of_getElem? (i := 121) rfl)) rfl)⟩
set_option maxRecDepth 100000 in
theorem kf_TW_24_2 : kFld RTW 24 2 5 := ⟨RCH, TCH, 10, "CipherModes$TweakedMode", rfl, by decide, kuCH, Or.inl (kt (List.mem_append_left _ (List.mem_of_getElem? (i := 122) rfl)) rfl), Or.inr (kt (List.mem_append_left _ (List.mem_of_getElem? (i := 123) rfl)) rfl)⟩
set_option maxRecDepth 100000 in
theorem kf_TW_24_4 : kFld RTW 24 4 5 := ⟨RST, TST, 10, "CipherModes$TweakedMode", rfl, by decide, kuST, Or.inl (kt (List.mem_append_left _ (List.mem_of_getElem? (i := 122) rfl)) rfl), Or.inr (kt (List.mem_append_left _ (List.mem_of_getElem? (i := 123) rfl)) rfl)⟩
set_option maxRecDepth 100000 in
theorem kf_TW_24_5 : kFld RTW 24 5 2 := ⟨RSM, TSM, 7, "CipherModes$TweakedMode", rfl, by decide, kuSM, Or.inl (kt (List.mem_append_left _ (List.mem_of_getElem? (i := 122) rfl)) rfl), Or.inr (kt (List.mem_append_left _ (List.mem_of_getElem? (i := 123) rfl)) rfl)⟩
set_option maxRecDepth 100000 in
theorem kf_TW_24_6 : kFld RTW 24 6 5 := ⟨RTW, TTW, 10, "CipherModes$TweakedMode", rfl, by decide, kuTW, Or.inl (kt (List.mem_append_left _ (List.mem_of_getElem? (i := 122) rfl)) rfl), Or.inr (kt (List.mem_append_left _ (List.mem_of_getElem? (i := 123) rfl)) rfl)⟩
set_option maxRecDepth 100000 in
theorem kf_SM_55_2 : kFld RSM 55 2 5 := ⟨RCH, TCH, 10, "CipherModes$StreamMode", rfl, by decide, kuCH, Or.inl (kt (List.mem_append_left _ (List.mem_of_getElem? (i := 124) rfl)) rfl), Or.inr (kt (List.mem_append_left _ (List.mem_of_getElem? (i := 125) rfl)) rfl)⟩
set_option maxRecDepth 100000 in
theorem kf_SM_55_4 : kFld RSM 55 4 5 := ⟨RST, TST, 10, "CipherModes$StreamMode", rfl, by decide, kuST, Or.inl (kt (List.mem_append_left _ (List.mem_of_getElem? (i := 124) rfl)) rfl), Or.inr (kt (List.mem_append_left _ (List.mem_of_getElem? (i := 125) rfl)) rfl)⟩
set_option maxRecDepth 100000 in
theorem kf_SM_55_5 : kFld RSM 55 5 2 := ⟨RSM, TSM, 7, "CipherModes$StreamMode", rfl, by decide, kuSM, Or.inl (kt (List.mem_append_left _ (List.mem_of_getElem? (i := 124) rfl)) rfl), Or.inr (kt (List.mem_append_left _ (List.mem_of_getElem? (i := 125) rfl)) rfl)⟩
set_option maxRecDepth 100000 in
theorem kf_SM_55_6 : kFld RSM 55 6 5 := ⟨RTW, TTW, 10, "CipherModes$StreamMode", rfl, by decide, kuTW, Or.inl (kt (List.mem_append_left _ (List.mem_of_getElem? (i := 124) rfl)) rfl), Or.inr (kt (List.mem_append_left _ (List.mem_of_getElem? (i := 125) rfl)) rfl)⟩
set_option maxRecDepth 100000 in
theorem kf_ST_75_2 : kFld RST 75 2 5 := ⟨RCH, TCH, 10, "CipherModes$StolenMode", rfl, by decide, kuCH, Or.inl (kt (List.mem_append_left _ (List.mem_of_getElem? (i := 126) rfl)) rfl), Or.inr (kt (List.mem_append_left _ (List.mem_of_getElem? (i := 127) rfl)) rfl)⟩
set_option maxRecDepth 100000 in
theorem kf_ST_75_4 : kFld RST 75 4 5 := ⟨RST, TST, 10, "CipherModes$StolenMode", rfl, by decide, kuST, Or.inl (kt (List.mem_append_left _ (List.mem_of_getElem? (i := 126) rfl)) rfl), Or.inr (kt (List.mem_append_left _ (List.mem_of_getElem? (i := 127) rfl)) rfl)⟩
set_option maxRecDepth 100000 in
theorem kf_ST_75_5 : kFld RST 75 5 2 := ⟨RSM, TSM, 7, "CipherModes$StolenMode", rfl, by decide, kuSM, Or.inl (kt (List.mem_append_left _ (List.mem_of_getElem? (i := 126) rfl)) rfl), Or.inr (kt (List.mem_append_left _ (List.mem_of_getElem? (i := 127) rfl)) rfl)⟩
set_option maxRecDepth 100000 in
theorem kf_ST_75_6 : kFld RST 75 6 5 := ⟨RTW, TTW, 10, "CipherModes$StolenMode", rfl, by decide, kuTW, Or.inl (kt (List.mem_append_left _ (List.mem_of_getElem? (i := 126) rfl)) rfl), Or.inr (kt (List.mem_append_left _ (List.mem_of_getElem? (i := 127) rfl)) rfl)⟩
set_option maxRecDepth 100000 in
theorem kf_MO_27_2 : kFld RMO 27 2 6 := ⟨RCH, TCH, 10, "CipherModes$Mode", rfl, by decide, kuCH, Or.inl (kt (List.mem_append_left _ (List.mem_of_getElem? (i := 128) rfl)) rfl), Or.inl rfl⟩
set_option maxRecDepth 100000 in
theorem kp_MO_27_2_t : kPutW true RMO 27 2 6 (.object "CipherModes$Output") := ⟨RCH, TCH, 10, "CipherModes$Mode", tyCH, rfl, by decide, kuCH, tyoCH, nmCH, rfl, kt (List.mem_append_left _ (List.mem_of_getElem? (i := 128) rfl)) rfl, Or.inl rfl, Or.inr ⟨rfl, rfl, rfl⟩⟩
set_option maxRecDepth 100000 in
theorem kf_MO_27_4 : kFld RMO 27 4 6 := ⟨RST, TST, 10, "CipherModes$Mode", rfl, by decide, kuST, Or.inl (kt (List.mem_append_left _ (List.mem_of_getElem? (i := 128) rfl)) rfl), Or.inl rfl⟩
set_option maxRecDepth 100000 in
theorem kp_MO_27_4_t : kPutW true RMO 27 4 6 (.object "CipherModes$Output") := ⟨RST, TST, 10, "CipherModes$Mode", tyST, rfl, by decide, kuST, tyoST, nmST, rfl, kt (List.mem_append_left _ (List.mem_of_getElem? (i := 128) rfl)) rfl, Or.inl rfl, Or.inr ⟨rfl, rfl, rfl⟩⟩
set_option maxRecDepth 100000 in
theorem kf_MO_27_5 : kFld RMO 27 5 3 := ⟨RSM, TSM, 7, "CipherModes$Mode", rfl, by decide, kuSM, Or.inl (kt (List.mem_append_left _ (List.mem_of_getElem? (i := 128) rfl)) rfl), Or.inl rfl⟩
set_option maxRecDepth 100000 in
theorem kp_MO_27_5_t : kPutW true RMO 27 5 3 (.object "CipherModes$Output") := ⟨RSM, TSM, 7, "CipherModes$Mode", tySM, rfl, by decide, kuSM, tyoSM, nmSM, rfl, kt (List.mem_append_left _ (List.mem_of_getElem? (i := 128) rfl)) rfl, Or.inl rfl, Or.inr ⟨rfl, rfl, rfl⟩⟩
set_option maxRecDepth 100000 in
theorem kf_MO_27_6 : kFld RMO 27 6 6 := ⟨RTW, TTW, 10, "CipherModes$Mode", rfl, by decide, kuTW, Or.inl (kt (List.mem_append_left _ (List.mem_of_getElem? (i := 128) rfl)) rfl), Or.inl rfl⟩
set_option maxRecDepth 100000 in
theorem kp_MO_27_6_t : kPutW true RMO 27 6 6 (.object "CipherModes$Output") := ⟨RTW, TTW, 10, "CipherModes$Mode", tyTW, rfl, by decide, kuTW, tyoTW, nmTW, rfl, kt (List.mem_append_left _ (List.mem_of_getElem? (i := 128) rfl)) rfl, Or.inl rfl, Or.inr ⟨rfl, rfl, rfl⟩⟩
set_option maxRecDepth 100000 in
theorem kf_SM_23_2 : kFld RSM 23 2 6 := ⟨RCH, TCH, 10, "CipherModes$StreamMode", rfl, by decide, kuCH, Or.inl (kt (List.mem_append_left _ (List.mem_of_getElem? (i := 129) rfl)) rfl), Or.inr (kt (List.mem_append_left _ (List.mem_of_getElem? (i := 130) rfl)) rfl)⟩
set_option maxRecDepth 100000 in
theorem kf_SM_23_4 : kFld RSM 23 4 6 := ⟨RST, TST, 10, "CipherModes$StreamMode", rfl, by decide, kuST, Or.inl (kt (List.mem_append_left _ (List.mem_of_getElem? (i := 129) rfl)) rfl), Or.inr (kt (List.mem_append_left _ (List.mem_of_getElem? (i := 130) rfl)) rfl)⟩
set_option maxRecDepth 100000 in
theorem kf_SM_23_5 : kFld RSM 23 5 3 := ⟨RSM, TSM, 7, "CipherModes$StreamMode", rfl, by decide, kuSM, Or.inl (kt (List.mem_append_left _ (List.mem_of_getElem? (i := 129) rfl)) rfl), Or.inr (kt (List.mem_append_left _ (List.mem_of_getElem? (i := 130) rfl)) rfl)⟩
set_option maxRecDepth 100000 in
theorem kf_SM_23_6 : kFld RSM 23 6 6 := ⟨RTW, TTW, 10, "CipherModes$StreamMode", rfl, by decide, kuTW, Or.inl (kt (List.mem_append_left _ (List.mem_of_getElem? (i := 129) rfl)) rfl), Or.inr (kt (List.mem_append_left _ (List.mem_of_getElem? (i := 130) rfl)) rfl)⟩
set_option maxRecDepth 100000 in
theorem kf_ST_59_2 : kFld RST 59 2 6 := ⟨RCH, TCH, 10, "CipherModes$StolenMode", rfl, by decide, kuCH, Or.inl (kt (List.mem_append_left _ (List.mem_of_getElem? (i := 131) rfl)) rfl), Or.inr (kt (List.mem_append_left _ (List.mem_of_getElem? (i := 132) rfl)) rfl)⟩
set_option maxRecDepth 100000 in
theorem kf_ST_59_4 : kFld RST 59 4 6 := ⟨RST, TST, 10, "CipherModes$StolenMode", rfl, by decide, kuST, Or.inl (kt (List.mem_append_left _ (List.mem_of_getElem? (i := 131) rfl)) rfl), Or.inr (kt (List.mem_append_left _ (List.mem_of_getElem? (i := 132) rfl)) rfl)⟩
set_option maxRecDepth 100000 in
theorem kf_ST_59_5 : kFld RST 59 5 3 := ⟨RSM, TSM, 7, "CipherModes$StolenMode", rfl, by decide, kuSM, Or.inl (kt (List.mem_append_left _ (List.mem_of_getElem? (i := 131) rfl)) rfl), Or.inr (kt (List.mem_append_left _ (List.mem_of_getElem? (i := 132) rfl)) rfl)⟩
set_option maxRecDepth 100000 in
theorem kf_ST_59_6 : kFld RST 59 6 6 := ⟨RTW, TTW, 10, "CipherModes$StolenMode", rfl, by decide, kuTW, Or.inl (kt (List.mem_append_left _ (List.mem_of_getElem? (i := 131) rfl)) rfl), Or.inr (kt (List.mem_append_left _ (List.mem_of_getElem? (i := 132) rfl)) rfl)⟩
set_option maxRecDepth 100000 in
theorem kf_BM_49_2 : kFld RBM 49 2 6 := ⟨RCH, TCH, 10, "CipherModes$BlockMode", rfl, by decide, kuCH, Or.inl (kt (List.mem_append_left _ (List.mem_of_getElem? (i := 133) rfl)) rfl), Or.inr (kt (List.mem_append_left _ (List.mem_of_getElem? (i := 134) rfl)) rfl)⟩
set_option maxRecDepth 100000 in
theorem kf_BM_49_4 : kFld RBM 49 4 6 := ⟨RST, TST, 10, "CipherModes$BlockMode", rfl, by decide, kuST, Or.inl (kt (List.mem_append_left _ (List.mem_of_getElem? (i := 133) rfl)) rfl), Or.inr (kt (List.mem_append_left _ (List.mem_of_getElem? (i := 134) rfl)) rfl)⟩
set_option maxRecDepth 100000 in
theorem kf_BM_49_5 : kFld RBM 49 5 3 := ⟨RSM, TSM, 7, "CipherModes$BlockMode", rfl, by decide, kuSM, Or.inl (kt (List.mem_append_left _ (List.mem_of_getElem? (i := 133) rfl)) rfl), Or.inr (kt (List.mem_append_left _ (List.mem_of_getElem? (i := 134) rfl)) rfl)⟩
set_option maxRecDepth 100000 in
theorem kf_BM_49_6 : kFld RBM 49 6 6 := ⟨RTW, TTW, 10, "CipherModes$BlockMode", rfl, by decide, kuTW, Or.inl (kt (List.mem_append_left _ (List.mem_of_getElem? (i := 133) rfl)) rfl), Or.inr (kt (List.mem_append_left _ (List.mem_of_getElem? (i := 134) rfl)) rfl)⟩
set_option maxRecDepth 100000 in
theorem kf_CH_79_2 : kFld RCH 79 2 6 := ⟨RCH, TCH, 10, "CipherModes$ChainedMode", rfl, by decide, kuCH, Or.inl (kt (List.mem_append_left _ (List.mem_of_getElem? (i := 135) rfl)) rfl), Or.inr (kt (List.mem_append_left _ (List.mem_of_getElem? (i := 136) rfl)) rfl)⟩
set_option maxRecDepth 100000 in
theorem kf_CH_79_4 : kFld RCH 79 4 6 := ⟨RST, TST, 10, "CipherModes$ChainedMode", rfl, by decide, kuST, Or.inl (kt (List.mem_append_left _ (List.mem_of_getElem? (i := 135) rfl)) rfl), Or.inr (kt (List.mem_append_left _ (List.mem_of_getElem? (i := 136) rfl)) rfl)⟩
set_option maxRecDepth 100000 in
theorem kf_CH_79_5 : kFld RCH 79 5 3 := ⟨RSM, TSM, 7, "CipherModes$ChainedMode", rfl, by decide, kuSM, Or.inl (kt (List.mem_append_left _ (List.mem_of_getElem? (i := 135) rfl)) rfl), Or.inr (kt (List.mem_append_left _ (List.mem_of_getElem? (i := 136) rfl)) rfl)⟩
set_option maxRecDepth 100000 in
theorem kf_CH_79_6 : kFld RCH 79 6 6 := ⟨RTW, TTW, 10, "CipherModes$ChainedMode", rfl, by decide, kuTW, Or.inl (kt (List.mem_append_left _ (List.mem_of_getElem? (i := 135) rfl)) rfl), Or.inr (kt (List.mem_append_left _ (List.mem_of_getElem? (i := 136) rfl)) rfl)⟩
set_option maxRecDepth 100000 in
theorem kf_TW_75_2 : kFld RTW 75 2 6 := ⟨RCH, TCH, 10, "CipherModes$TweakedMode", rfl, by decide, kuCH, Or.inl (kt (List.mem_append_left _ (List.mem_of_getElem? (i := 137) rfl)) rfl), Or.inr (kt (List.mem_append_left _ (List.mem_of_getElem? (i := 138) rfl)) rfl)⟩
set_option maxRecDepth 100000 in
theorem kf_TW_75_4 : kFld RTW 75 4 6 := ⟨RST, TST, 10, "CipherModes$TweakedMode", rfl, by decide, kuST, Or.inl (kt (List.mem_append_left _ (List.mem_of_getElem? (i := 137) rfl)) rfl), Or.inr (kt (List.mem_append_left _ (List.mem_of_getElem? (i := 138) rfl)) rfl)⟩
set_option maxRecDepth 100000 in
theorem kf_TW_75_5 : kFld RTW 75 5 3 := ⟨RSM, TSM, 7, "CipherModes$TweakedMode", rfl, by decide, kuSM, Or.inl (kt (List.mem_append_left _ (List.mem_of_getElem? (i := 137) rfl)) rfl), Or.inr (kt (List.mem_append_left _ (List.mem_of_getElem? (i := 138) rfl)) rfl)⟩
set_option maxRecDepth 100000 in
theorem kf_TW_75_6 : kFld RTW 75 6 6 := ⟨RTW, TTW, 10, "CipherModes$TweakedMode", rfl, by decide, kuTW, Or.inl (kt (List.mem_append_left _ (List.mem_of_getElem? (i := 137) rfl)) rfl), Or.inr (kt (List.mem_append_left _ (List.mem_of_getElem? (i := 138) rfl)) rfl)⟩
set_option maxRecDepth 100000 in
theorem kf_MO_9_2 : kFld RMO 9 2 7 := ⟨RCH, TCH, 10, "CipherModes$Mode", rfl, by decide, kuCH, Or.inl (kt (List.mem_append_left _ (List.mem_of_getElem? (i := 139) rfl)) rfl), Or.inl rfl⟩
set_option maxRecDepth 100000 in
theorem kp_MO_9_2_t : kPutW true RMO 9 2 7 (.array .int) := ⟨RCH, TCH, 10, "CipherModes$Mode", tyCH, rfl, by decide, kuCH, tyoCH, nmCH, rfl, kt (List.mem_append_left _ (List.mem_of_getElem? (i := 139) rfl)) rfl, Or.inl rfl, Or.inr ⟨rfl, rfl, rfl⟩⟩
set_option maxRecDepth 100000 in
theorem kf_MO_9_4 : kFld RMO 9 4 7 := ⟨RST, TST, 10, "CipherModes$Mode", rfl, by decide, kuST, Or.inl (kt (List.mem_append_left _ (List.mem_of_getElem? (i := 139) rfl)) rfl), Or.inl rfl⟩
set_option maxRecDepth 100000 in
theorem kp_MO_9_4_t : kPutW true RMO 9 4 7 (.array .int) := ⟨RST, TST, 10, "CipherModes$Mode", tyST, rfl, by decide, kuST, tyoST, nmST, rfl, kt (List.mem_append_left _ (List.mem_of_getElem? (i := 139) rfl)) rfl, Or.inl rfl, Or.inr ⟨rfl, rfl, rfl⟩⟩
set_option maxRecDepth 100000 in
theorem kf_MO_9_5 : kFld RMO 9 5 4 := ⟨RSM, TSM, 7, "CipherModes$Mode", rfl, by decide, kuSM, Or.inl (kt (List.mem_append_left _ (List.mem_of_getElem? (i := 139) rfl)) rfl), Or.inl rfl⟩
set_option maxRecDepth 100000 in
theorem kp_MO_9_5_t : kPutW true RMO 9 5 4 (.array .int) := ⟨RSM, TSM, 7, "CipherModes$Mode", tySM, rfl, by decide, kuSM, tyoSM, nmSM, rfl, kt (List.mem_append_left _ (List.mem_of_getElem? (i := 139) rfl)) rfl, Or.inl rfl, Or.inr ⟨rfl, rfl, rfl⟩⟩
set_option maxRecDepth 100000 in
theorem kf_MO_9_6 : kFld RMO 9 6 7 := ⟨RTW, TTW, 10, "CipherModes$Mode", rfl, by decide, kuTW, Or.inl (kt (List.mem_append_left _ (List.mem_of_getElem? (i := 139) rfl)) rfl), Or.inl rfl⟩
set_option maxRecDepth 100000 in
theorem kp_MO_9_6_t : kPutW true RMO 9 6 7 (.array .int) := ⟨RTW, TTW, 10, "CipherModes$Mode", tyTW, rfl, by decide, kuTW, tyoTW, nmTW, rfl, kt (List.mem_append_left _ (List.mem_of_getElem? (i := 139) rfl)) rfl, Or.inl rfl, Or.inr ⟨rfl, rfl, rfl⟩⟩
set_option maxRecDepth 100000 in
theorem kf_TW_15_2 : kFld RTW 15 2 7 := ⟨RCH, TCH, 10, "CipherModes$TweakedMode", rfl, by decide, kuCH, Or.inl (kt (List.mem_append_left _ (List.mem_of_getElem? (i := 140) rfl)) rfl), Or.inr (kt (List.mem_append_left _ (List.mem_of_getElem? (i := 141) rfl)) rfl)⟩
set_option maxRecDepth 100000 in
theorem kf_TW_15_4 : kFld RTW 15 4 7 := ⟨RST, TST, 10, "CipherModes$TweakedMode", rfl, by decide, kuST, Or.inl (kt (List.mem_append_left _ (List.mem_of_getElem? (i := 140) rfl)) rfl), Or.inr (kt (List.mem_append_left _ (List.mem_of_getElem? (i := 141) rfl)) rfl)⟩
set_option maxRecDepth 100000 in
theorem kf_TW_15_5 : kFld RTW 15 5 4 := ⟨RSM, TSM, 7, "CipherModes$TweakedMode", rfl, by decide, kuSM, Or.inl (kt (List.mem_append_left _ (List.mem_of_getElem? (i := 140) rfl)) rfl), Or.inr (kt (List.mem_append_left _ (List.mem_of_getElem? (i := 141) rfl)) rfl)⟩
set_option maxRecDepth 100000 in
theorem kf_TW_15_6 : kFld RTW 15 6 7 := ⟨RTW, TTW, 10, "CipherModes$TweakedMode", rfl, by decide, kuTW, Or.inl (kt (List.mem_append_left _ (List.mem_of_getElem? (i := 140) rfl)) rfl), Or.inr (kt (List.mem_append_left _ (List.mem_of_getElem? (i := 141) rfl)) rfl)⟩
set_option maxRecDepth 100000 in
theorem kf_CH_43_2 : kFld RCH 43 2 7 := ⟨RCH, TCH, 10, "CipherModes$ChainedMode", rfl, by decide, kuCH, Or.inl (kt (List.mem_append_left _ (List.mem_of_getElem? (i := 142) rfl)) rfl), Or.inr (kt (List.mem_append_left _ (List.mem_of_getElem? (i := 143) rfl)) rfl)⟩
set_option maxRecDepth 100000 in
theorem kf_CH_43_4 : kFld RCH 43 4 7 := ⟨RST, TST, 10, "CipherModes$ChainedMode", rfl, by decide, kuST, Or.inl (kt (List.mem_append_left _ (List.mem_of_getElem? (i := 142) rfl)) rfl), Or.inr (kt (List.mem_append_left _ (List.mem_of_getElem? (i := 143) rfl)) rfl)⟩
set_option maxRecDepth 100000 in
theorem kf_CH_43_5 : kFld RCH 43 5 4 := ⟨RSM, TSM, 7, "CipherModes$ChainedMode", rfl, by decide, kuSM, Or.inl (kt (List.mem_append_left _ (List.mem_of_getElem? (i := 142) rfl)) rfl), Or.inr (kt (List.mem_append_left _ (List.mem_of_getElem? (i := 143) rfl)) rfl)⟩
set_option maxRecDepth 100000 in
theorem kf_CH_43_6 : kFld RCH 43 6 7 := ⟨RTW, TTW, 10, "CipherModes$ChainedMode", rfl, by decide, kuTW, Or.inl (kt (List.mem_append_left _ (List.mem_of_getElem? (i := 142) rfl)) rfl), Or.inr (kt (List.mem_append_left _ (List.mem_of_getElem? (i := 143) rfl)) rfl)⟩
set_option maxRecDepth 100000 in
theorem kf_SM_40_2 : kFld RSM 40 2 7 := ⟨RCH, TCH, 10, "CipherModes$StreamMode", rfl, by decide, kuCH, Or.inl (kt (List.mem_append_left _ (List.mem_of_getElem? (i := 144) rfl)) rfl), Or.inr (kt (List.mem_append_left _ (List.mem_of_getElem? (i := 145) rfl)) rfl)⟩
set_option maxRecDepth 100000 in
theorem kf_SM_40_4 : kFld RSM 40 4 7 := ⟨RST, TST, 10, "CipherModes$StreamMode", rfl, by decide, kuST, Or.inl (kt (List.mem_append_left _ (List.mem_of_getElem? (i := 144) rfl)) rfl), Or.inr (kt (List.mem_append_left _ (List.mem_of_getElem? (i := 145) rfl)) rfl)⟩
set_option maxRecDepth 100000 in
theorem kf_SM_40_5 : kFld RSM 40 5 4 := ⟨RSM, TSM, 7, "CipherModes$StreamMode", rfl, by decide, kuSM, Or.inl (kt (List.mem_append_left _ (List.mem_of_getElem? (i := 144) rfl)) rfl), Or.inr (kt (List.mem_append_left _ (List.mem_of_getElem? (i := 145) rfl)) rfl)⟩
set_option maxRecDepth 100000 in
theorem kf_SM_40_6 : kFld RSM 40 6 7 := ⟨RTW, TTW, 10, "CipherModes$StreamMode", rfl, by decide, kuTW, Or.inl (kt (List.mem_append_left _ (List.mem_of_getElem? (i := 144) rfl)) rfl), Or.inr (kt (List.mem_append_left _ (List.mem_of_getElem? (i := 145) rfl)) rfl)⟩
set_option maxRecDepth 100000 in
theorem kf_MO_15_2 : kFld RMO 15 2 8 := ⟨RCH, TCH, 10, "CipherModes$Mode", rfl, by decide, kuCH, Or.inl (kt (List.mem_append_left _ (List.mem_of_getElem? (i := 146) rfl)) rfl), Or.inl rfl⟩
set_option maxRecDepth 100000 in
theorem kp_MO_15_2_f : kPutW false RMO 15 2 8 (.int) := ⟨RCH, TCH, 10, "CipherModes$Mode", tyCH, rfl, by decide, kuCH, tyoCH, nmCH, rfl, kt (List.mem_append_left _ (List.mem_of_getElem? (i := 146) rfl)) rfl, Or.inl rfl, Or.inl rfl⟩
set_option maxRecDepth 100000 in
theorem kp_MO_15_2_t : kPutW true RMO 15 2 8 (.int) := ⟨RCH, TCH, 10, "CipherModes$Mode", tyCH, rfl, by decide, kuCH, tyoCH, nmCH, rfl, kt (List.mem_append_left _ (List.mem_of_getElem? (i := 146) rfl)) rfl, Or.inl rfl, Or.inl rfl⟩
set_option maxRecDepth 100000 in
theorem kf_MO_15_4 : kFld RMO 15 4 8 := ⟨RST, TST, 10, "CipherModes$Mode", rfl, by decide, kuST, Or.inl (kt (List.mem_append_left _ (List.mem_of_getElem? (i := 146) rfl)) rfl), Or.inl rfl⟩
set_option maxRecDepth 100000 in
theorem kp_MO_15_4_f : kPutW false RMO 15 4 8 (.int) := ⟨RST, TST, 10, "CipherModes$Mode", tyST, rfl, by decide, kuST, tyoST, nmST, rfl, kt (List.mem_append_left _ (List.mem_of_getElem? (i := 146) rfl)) rfl, Or.inl rfl, Or.inl rfl⟩
set_option maxRecDepth 100000 in
theorem kp_MO_15_4_t : kPutW true RMO 15 4 8 (.int) := ⟨RST, TST, 10, "CipherModes$Mode", tyST, rfl, by decide, kuST, tyoST, nmST, rfl, kt (List.mem_append_left _ (List.mem_of_getElem? (i := 146) rfl)) rfl, Or.inl rfl, Or.inl rfl⟩
set_option maxRecDepth 100000 in
theorem kf_MO_15_5 : kFld RMO 15 5 5 := ⟨RSM, TSM, 7, "CipherModes$Mode", rfl, by decide, kuSM, Or.inl (kt (List.mem_append_left _ (List.mem_of_getElem? (i := 146) rfl)) rfl), Or.inl rfl⟩
set_option maxRecDepth 100000 in
theorem kp_MO_15_5_f : kPutW false RMO 15 5 5 (.int) := ⟨RSM, TSM, 7, "CipherModes$Mode", tySM, rfl, by decide, kuSM, tyoSM, nmSM, rfl, kt (List.mem_append_left _ (List.mem_of_getElem? (i := 146) rfl)) rfl, Or.inl rfl, Or.inl rfl⟩
set_option maxRecDepth 100000 in
theorem kp_MO_15_5_t : kPutW true RMO 15 5 5 (.int) := ⟨RSM, TSM, 7, "CipherModes$Mode", tySM, rfl, by decide, kuSM, tyoSM, nmSM, rfl, kt (List.mem_append_left _ (List.mem_of_getElem? (i := 146) rfl)) rfl, Or.inl rfl, Or.inl rfl⟩
set_option maxRecDepth 100000 in
theorem kf_MO_15_6 : kFld RMO 15 6 8 := ⟨RTW, TTW, 10, "CipherModes$Mode", rfl, by decide, kuTW, Or.inl (kt (List.mem_append_left _ (List.mem_of_getElem? (i := 146) rfl)) rfl), Or.inl rfl⟩
set_option maxRecDepth 100000 in
theorem kp_MO_15_6_f : kPutW false RMO 15 6 8 (.int) := ⟨RTW, TTW, 10, "CipherModes$Mode", tyTW, rfl, by decide, kuTW, tyoTW, nmTW, rfl, kt (List.mem_append_left _ (List.mem_of_getElem? (i := 146) rfl)) rfl, Or.inl rfl, Or.inl rfl⟩
set_option maxRecDepth 100000 in
theorem kp_MO_15_6_t : kPutW true RMO 15 6 8 (.int) := ⟨RTW, TTW, 10, "CipherModes$Mode", tyTW, rfl, by decide, kuTW, tyoTW, nmTW, rfl, kt (List.mem_append_left _ (List.mem_of_getElem? (i := 146) rfl)) rfl, Or.inl rfl, Or.inl rfl⟩
set_option maxRecDepth 100000 in
theorem kf_CH_15_2 : kFld RCH 15 2 8 := ⟨RCH, TCH, 10, "CipherModes$ChainedMode", rfl, by decide, kuCH, Or.inl (kt (List.mem_append_left _ (List.mem_of_getElem? (i := 147) rfl)) rfl), Or.inr (kt (List.mem_append_left _ (List.mem_of_getElem? (i := 148) rfl)) rfl)⟩
set_option maxRecDepth 100000 in
theorem kf_CH_15_4 : kFld RCH 15 4 8 := ⟨RST, TST, 10, "CipherModes$ChainedMode", rfl, by decide, kuST, Or.inl (kt (List.mem_append_left _ (List.mem_of_getElem? (i := 147) rfl)) rfl), Or.inr (kt (List.mem_append_left _ (List.mem_of_getElem? (i := 148) rfl)) rfl)⟩
set_option maxRecDepth 100000 in
theorem kf_CH_15_5 : kFld RCH 15 5 5 := ⟨RSM, TSM, 7, "CipherModes$ChainedMode", rfl, by decide, kuSM, Or.inl (kt (List.mem_append_left _ (List.mem_of_getElem? (i := 147) rfl)) rfl), Or.inr (kt (List.mem_append_left _ (List.mem_of_getElem? (i := 148) rfl)) rfl)⟩
set_option maxRecDepth 100000 in
theorem kf_CH_15_6 : kFld RCH 15 6 8 := ⟨RTW, TTW, 10, "CipherModes$ChainedMode", rfl, by decide, kuTW, Or.inl (kt (List.mem_append_left _ (List.mem_of_getElem? (i := 147) rfl)) rfl), Or.inr (kt (List.mem_append_left _ (List.mem_of_getElem? (i := 148) rfl)) rfl)⟩
set_option maxRecDepth 100000 in
theorem kf_SM_37_2 : kFld RSM 37 2 8 := ⟨RCH, TCH, 10, "CipherModes$StreamMode", rfl, by decide, kuCH, Or.inl (kt (List.mem_append_left _ (List.mem_of_getElem? (i := 149) rfl)) rfl), Or.inr (kt (List.mem_append_left _ (List.mem_of_getElem? (i := 150) rfl)) rfl)⟩
set_option maxRecDepth 100000 in
theorem kf_SM_37_4 : kFld RSM 37 4 8 := ⟨RST, TST, 10, "CipherModes$StreamMode", rfl, by decide, kuST, Or.inl (kt (List.mem_append_left _ (List.mem_of_getElem? (i := 149) rfl)) rfl), Or.inr (kt (List.mem_append_left _ (List.mem_of_getElem? (i := 150) rfl)) rfl)⟩
set_option maxRecDepth 100000 in
theorem kf_SM_37_5 : kFld RSM 37 5 5 := ⟨RSM, TSM, 7, "CipherModes$StreamMode", rfl, by decide, kuSM, Or.inl (kt (List.mem_append_left _ (List.mem_of_getElem? (i := 149) rfl)) rfl), Or.inr (kt (List.mem_append_left _ (List.mem_of_getElem? (i := 150) rfl)) rfl)⟩
set_option maxRecDepth 100000 in
theorem kf_SM_37_6 : kFld RSM 37 6 8 := ⟨RTW, TTW, 10, "CipherModes$StreamMode", rfl, by decide, kuTW, Or.inl (kt (List.mem_append_left _ (List.mem_of_getElem? (i := 149) rfl)) rfl), Or.inr (kt (List.mem_append_left _ (List.mem_of_getElem? (i := 150) rfl)) rfl)⟩
set_option maxRecDepth 100000 in
theorem kf_ST_32_2 : kFld RST 32 2 8 := ⟨RCH, TCH, 10, "CipherModes$StolenMode", rfl, by decide, kuCH, Or.inl (kt (List.mem_append_left _ (List.mem_of_getElem? (i := 151) rfl)) rfl), Or.inr (kt (List.mem_append_left _ (List.mem_of_getElem? (i := 152) rfl)) rfl)⟩
set_option maxRecDepth 100000 in
theorem kf_ST_32_4 : kFld RST 32 4 8 := ⟨RST, TST, 10, "CipherModes$StolenMode", rfl, by decide, kuST, Or.inl (kt (List.mem_append_left _ (List.mem_of_getElem? (i := 151) rfl)) rfl), Or.inr (kt (List.mem_append_left _ (List.mem_of_getElem? (i := 152) rfl)) rfl)⟩
set_option maxRecDepth 100000 in
theorem kf_ST_32_5 : kFld RST 32 5 5 := ⟨RSM, TSM, 7, "CipherModes$StolenMode", rfl, by decide, kuSM, Or.inl (kt (List.mem_append_left _ (List.mem_of_getElem? (i := 151) rfl)) rfl), Or.inr (kt (List.mem_append_left _ (List.mem_of_getElem? (i := 152) rfl)) rfl)⟩
set_option maxRecDepth 100000 in
theorem kf_ST_32_6 : kFld RST 32 6 8 := ⟨RTW, TTW, 10, "CipherModes$StolenMode", rfl, by decide, kuTW, Or.inl (kt (List.mem_append_left _ (List.mem_of_getElem? (i := 151) rfl)) rfl), Or.inr (kt (List.mem_append_left _ (List.mem_of_getElem? (i := 152) rfl)) rfl)⟩
set_option maxRecDepth 100000 in
theorem kf_MO_19_2 : kFld RMO 19 2 9 := ⟨RCH, TCH, 10, "CipherModes$Mode", rfl, by decide, kuCH, Or.inl (kt (List.mem_append_left _ (List.mem_of_getElem? (i := 153) rfl)) rfl), Or.inl rfl⟩
set_option maxRecDepth 100000 in
theorem kp_MO_19_2_f : kPutW false RMO 19 2 9 (.boolean) := ⟨RCH, TCH, 10, "CipherModes$Mode", tyCH, rfl, by decide, kuCH, tyoCH, nmCH, rfl, kt (List.mem_append_left _ (List.mem_of_getElem? (i := 153) rfl)) rfl, Or.inl rfl, Or.inl rfl⟩
set_option maxRecDepth 100000 in
theorem kp_MO_19_2_t : kPutW true RMO 19 2 9 (.boolean) := ⟨RCH, TCH, 10, "CipherModes$Mode", tyCH, rfl, by decide, kuCH, tyoCH, nmCH, rfl, kt (List.mem_append_left _ (List.mem_of_getElem? (i := 153) rfl)) rfl, Or.inl rfl, Or.inl rfl⟩
set_option maxRecDepth 100000 in
theorem kf_MO_19_4 : kFld RMO 19 4 9 := ⟨RST, TST, 10, "CipherModes$Mode", rfl, by decide, kuST, Or.inl (kt (List.mem_append_left _ (List.mem_of_getElem? (i := 153) rfl)) rfl), Or.inl rfl⟩
set_option maxRecDepth 100000 in
theorem kp_MO_19_4_f : kPutW false RMO 19 4 9 (.boolean) := ⟨RST, TST, 10, "CipherModes$Mode", tyST, rfl, by decide, kuST, tyoST, nmST, rfl, kt (List.mem_append_left _ (List.mem_of_getElem? (i := 153) rfl)) rfl, Or.inl rfl, Or.inl rfl⟩
set_option maxRecDepth 100000 in
theorem kp_MO_19_4_t : kPutW true RMO 19 4 9 (.boolean) := ⟨RST, TST, 10, "CipherModes$Mode", tyST, rfl, by decide, kuST, tyoST, nmST, rfl, kt (List.mem_append_left _ (List.mem_of_getElem? (i := 153) rfl)) rfl, Or.inl rfl, Or.inl rfl⟩
set_option maxRecDepth 100000 in
theorem kf_MO_19_5 : kFld RMO 19 5 6 := ⟨RSM, TSM, 7, "CipherModes$Mode", rfl, by decide, kuSM, Or.inl (kt (List.mem_append_left _ (List.mem_of_getElem? (i := 153) rfl)) rfl), Or.inl rfl⟩
set_option maxRecDepth 100000 in
theorem kp_MO_19_5_f : kPutW false RMO 19 5 6 (.boolean) := ⟨RSM, TSM, 7, "CipherModes$Mode", tySM, rfl, by decide, kuSM, tyoSM, nmSM, rfl, kt (List.mem_append_left _ (List.mem_of_getElem? (i := 153) rfl)) rfl, Or.inl rfl, Or.inl rfl⟩
set_option maxRecDepth 100000 in
theorem kp_MO_19_5_t : kPutW true RMO 19 5 6 (.boolean) := ⟨RSM, TSM, 7, "CipherModes$Mode", tySM, rfl, by decide, kuSM, tyoSM, nmSM, rfl, kt (List.mem_append_left _ (List.mem_of_getElem? (i := 153) rfl)) rfl, Or.inl rfl, Or.inl rfl⟩
set_option maxRecDepth 100000 in
theorem kf_MO_19_6 : kFld RMO 19 6 9 := ⟨RTW, TTW, 10, "CipherModes$Mode", rfl, by decide, kuTW, Or.inl (kt (List.mem_append_left _ (List.mem_of_getElem? (i := 153) rfl)) rfl), Or.inl rfl⟩
set_option maxRecDepth 100000 in
theorem kp_MO_19_6_f : kPutW false RMO 19 6 9 (.boolean) := ⟨RTW, TTW, 10, "CipherModes$Mode", tyTW, rfl, by decide, kuTW, tyoTW, nmTW, rfl, kt (List.mem_append_left _ (List.mem_of_getElem? (i := 153) rfl)) rfl, Or.inl rfl, Or.inl rfl⟩
set_option maxRecDepth 100000 in
theorem kp_MO_19_6_t : kPutW true RMO 19 6 9 (.boolean) := ⟨RTW, TTW, 10, "CipherModes$Mode", tyTW, rfl, by decide, kuTW, tyoTW, nmTW, rfl, kt (List.mem_append_left _ (List.mem_of_getElem? (i := 153) rfl)) rfl, Or.inl rfl, Or.inl rfl⟩
set_option maxRecDepth 100000 in
theorem kf_CH_19_2 : kFld RCH 19 2 9 := ⟨RCH, TCH, 10, "CipherModes$ChainedMode", rfl, by decide, kuCH, Or.inl (kt (List.mem_append_left _ (List.mem_of_getElem? (i := 154) rfl)) rfl), Or.inr (kt (List.mem_append_left _ (List.mem_of_getElem? (i := 155) rfl)) rfl)⟩
set_option maxRecDepth 100000 in
theorem kf_CH_19_4 : kFld RCH 19 4 9 := ⟨RST, TST, 10, "CipherModes$ChainedMode", rfl, by decide, kuST, Or.inl (kt (List.mem_append_left _ (List.mem_of_getElem? (i := 154) rfl)) rfl), Or.inr (kt (List.mem_append_left _ (List.mem_of_getElem? (i := 155) rfl)) rfl)⟩
set_option maxRecDepth 100000 in
theorem kf_CH_19_5 : kFld RCH 19 5 6 := ⟨RSM, TSM, 7, "CipherModes$ChainedMode", rfl, by decide, kuSM, Or.inl (kt (List.mem_append_left _ (List.mem_of_getElem? (i := 154) rfl)) rfl), Or.inr (kt (List.mem_append_left _ (List.mem_of_getElem? (i := 155) rfl)) rfl)⟩
set_option maxRecDepth 100000 in
theorem kf_CH_19_6 : kFld RCH 19 6 9 := ⟨RTW, TTW, 10, "CipherModes$ChainedMode", rfl, by decide, kuTW, Or.inl (kt (List.mem_append_left _ (List.mem_of_getElem? (i := 154) rfl)) rfl), Or.inr (kt (List.mem_append_left _ (List.mem_of_getElem? (i := 155) rfl)) rfl)⟩
set_option maxRecDepth 100000 in
theorem kf_TW_28_2 : kFld RTW 28 2 9 := ⟨RCH, TCH, 10, "CipherModes$TweakedMode", rfl, by decide, kuCH, Or.inl (kt (List.mem_append_left _ (List.mem_of_getElem? (i := 156) rfl)) rfl), Or.inr (kt (List.mem_append_left _ (List.mem_of_getElem? (i := 157) rfl)) rfl)⟩
set_option maxRecDepth 100000 in
theorem kf_TW_28_4 : kFld RTW 28 4 9 := ⟨RST, TST, 10, "CipherModes$TweakedMode", rfl, by decide, kuST, Or.inl (kt (List.mem_append_left _ (List.mem_of_getElem? (i := 156) rfl)) rfl), Or.inr (kt (List.mem_append_left _ (List.mem_of_getElem? (i := 157) rfl)) rfl)⟩
set_option maxRecDepth 100000 in
theorem kf_TW_28_5 : kFld RTW 28 5 6 := ⟨RSM, TSM, 7, "CipherModes$TweakedMode", rfl, by decide, kuSM, Or.inl (kt (List.mem_append_left _ (List.mem_of_getElem? (i := 156) rfl)) rfl), Or.inr (kt (List.mem_append_left _ (List.mem_of_getElem? (i := 157) rfl)) rfl)⟩
set_option maxRecDepth 100000 in
theorem kf_TW_28_6 : kFld RTW 28 6 9 := ⟨RTW, TTW, 10, "CipherModes$TweakedMode", rfl, by decide, kuTW, Or.inl (kt (List.mem_append_left _ (List.mem_of_getElem? (i := 156) rfl)) rfl), Or.inr (kt (List.mem_append_left _ (List.mem_of_getElem? (i := 157) rfl)) rfl)⟩
set_option maxRecDepth 100000 in
theorem kf_ST_21_2 : kFld RST 21 2 9 := ⟨RCH, TCH, 10, "CipherModes$StolenMode", rfl, by decide, kuCH, Or.inl (kt (List.mem_append_left _ (List.mem_of_getElem? (i := 158) rfl)) rfl), Or.inr (kt (List.mem_append_left _ (List.mem_of_getElem? (i := 159) rfl)) rfl)⟩
set_option maxRecDepth 100000 in
theorem kf_ST_21_4 : kFld RST 21 4 9 := ⟨RST, TST, 10, "CipherModes$StolenMode", rfl, by decide, kuST, Or.inl (kt (List.mem_append_left _ (List.mem_of_getElem? (i := 158) rfl)) rfl), Or.inr (kt (List.mem_append_left _ (List.mem_of_getElem? (i := 159) rfl)) rfl)⟩
set_option maxRecDepth 100000 in
theorem kf_ST_21_5 : kFld RST 21 5 6 := ⟨RSM, TSM, 7, "CipherModes$StolenMode", rfl, by decide, kuSM, Or.inl (kt (List.mem_append_left _ (List.mem_of_getElem? (i := 158) rfl)) rfl), Or.inr (kt (List.mem_append_left _ (List.mem_of_getElem? (i := 159) rfl)) rfl)⟩
set_option maxRecDepth 100000 in
theorem kf_ST_21_6 : kFld RST 21 6 9 := ⟨RTW, TTW, 10, "CipherModes$StolenMode", rfl, by decide, kuTW, Or.inl (kt (List.mem_append_left _ (List.mem_of_getElem? (i := 158) rfl)) rfl), Or.inr (kt (List.mem_append_left _ (List.mem_of_getElem? (i := 159) rfl)) rfl)⟩
set_option maxRecDepth 100000 in
theorem kf_SM_33_2 : kFld RSM 33 2 9 := ⟨RCH, TCH, 10, "CipherModes$StreamMode", rfl, by decide, kuCH, Or.inl (kt (List.mem_append_left _ (List.mem_of_getElem? (i := 160) rfl)) rfl), Or.inr (kt (List.mem_append_left _ (List.mem_of_getElem? (i := 161) rfl)) rfl)⟩
set_option maxRecDepth 100000 in
theorem kf_SM_33_4 : kFld RSM 33 4 9 := ⟨RST, TST, 10, "CipherModes$StreamMode", rfl, by decide, kuST, Or.inl (kt (List.mem_append_left _ (List.mem_of_getElem? (i := 160) rfl)) rfl), Or.inr (kt (List.mem_append_left _ (List.mem_of_getElem? (i := 161) rfl)) rfl)⟩
set_option maxRecDepth 100000 in
theorem kf_SM_33_5 : kFld RSM 33 5 6 := ⟨RSM, TSM, 7, "CipherModes$StreamMode", rfl, by decide, kuSM, Or.inl (kt (List.mem_append_left _ (List.mem_of_getElem? (i := 160) rfl)) rfl), Or.inr (kt (List.mem_append_left _ (List.mem_of_getElem? (i := 161) rfl)) rfl)⟩
set_option maxRecDepth 100000 in
theorem kf_SM_33_6 : kFld RSM 33 6 9 := ⟨RTW, TTW, 10, "CipherModes$StreamMode", rfl, by decide, kuTW, Or.inl (kt (List.mem_append_left _ (List.mem_of_getElem? (i := 160) rfl)) rfl), Or.inr (kt (List.mem_append_left _ (List.mem_of_getElem? (i := 161) rfl)) rfl)⟩
set_option maxRecDepth 100000 in
theorem kf_SM_9_5 : kFld RSM 9 5 0 := ⟨RSM, TSM, 7, "CipherModes$StreamMode", rfl, by decide, kuSM, Or.inl (kt (List.mem_append_left _ (List.mem_of_getElem? (i := 206) rfl)) rfl), Or.inl rfl⟩
set_option maxRecDepth 100000 in
theorem kp_SM_9_5_t : kPutW true RSM 9 5 0 (.array .int) := ⟨RSM, TSM, 7, "CipherModes$StreamMode", tySM, rfl, by decide, kuSM, tyoSM, nmSM, rfl, kt (List.mem_append_left _ (List.mem_of_getElem? (i := 206) rfl)) rfl, Or.inl rfl, Or.inr ⟨rfl, rfl, rfl⟩⟩
set_option maxRecDepth 100000 in
theorem kf_SM_15_5 : kFld RSM 15 5 1 := ⟨RSM, TSM, 7, "CipherModes$StreamMode", rfl, by decide, kuSM, Or.inl (kt (List.mem_append_left _ (List.mem_of_getElem? (i := 207) rfl)) rfl), Or.inl rfl⟩
set_option maxRecDepth 100000 in
theorem kp_SM_15_5_f : kPutW false RSM 15 5 1 (.int) := ⟨RSM, TSM, 7, "CipherModes$StreamMode", tySM, rfl, by decide, kuSM, tyoSM, nmSM, rfl, kt (List.mem_append_left _ (List.mem_of_getElem? (i := 207) rfl)) rfl, Or.inl rfl, Or.inl rfl⟩
set_option maxRecDepth 100000 in
theorem kp_SM_15_5_t : kPutW true RSM 15 5 1 (.int) := ⟨RSM, TSM, 7, "CipherModes$StreamMode", tySM, rfl, by decide, kuSM, tyoSM, nmSM, rfl, kt (List.mem_append_left _ (List.mem_of_getElem? (i := 207) rfl)) rfl, Or.inl rfl, Or.inl rfl⟩
set_option maxRecDepth 100000 in
theorem kf_TW_9_6 : kFld RTW 9 6 0 := ⟨RTW, TTW, 10, "CipherModes$TweakedMode", rfl, by decide, kuTW, Or.inl (kt (List.mem_append_left _ (List.mem_of_getElem? (i := 224) rfl)) rfl), Or.inl rfl⟩
set_option maxRecDepth 100000 in
theorem kp_TW_9_6_t : kPutW true RTW 9 6 0 (.array .int) := ⟨RTW, TTW, 10, "CipherModes$TweakedMode", tyTW, rfl, by decide, kuTW, tyoTW, nmTW, rfl, kt (List.mem_append_left _ (List.mem_of_getElem? (i := 224) rfl)) rfl, Or.inl rfl, Or.inr ⟨rfl, rfl, rfl⟩⟩
set_option maxRecDepth 100000 in
theorem kf_X_10_7 : kFld RX 10 7 0 := ⟨RX, TX, 14, "CipherModes", rfl, by decide, kuX, Or.inl (kt (List.mem_append_left _ (List.mem_of_getElem? (i := 237) rfl)) rfl), Or.inl rfl⟩
set_option maxRecDepth 100000 in
theorem kp_X_10_7_t : kPutW true RX 10 7 0 (.object "CipherModes$Boxes") := ⟨RX, TX, 14, "CipherModes", tyX, rfl, by decide, kuX, tyoX, nmX, rfl, kt (List.mem_append_left _ (List.mem_of_getElem? (i := 237) rfl)) rfl, Or.inl rfl, Or.inr ⟨rfl, rfl, rfl⟩⟩
set_option maxRecDepth 100000 in
theorem kf_X_16_7 : kFld RX 16 7 1 := ⟨RX, TX, 14, "CipherModes", rfl, by decide, kuX, Or.inl (kt (List.mem_append_left _ (List.mem_of_getElem? (i := 238) rfl)) rfl), Or.inl rfl⟩
set_option maxRecDepth 100000 in
theorem kp_X_16_7_t : kPutW true RX 16 7 1 (.array .int) := ⟨RX, TX, 14, "CipherModes", tyX, rfl, by decide, kuX, tyoX, nmX, rfl, kt (List.mem_append_left _ (List.mem_of_getElem? (i := 238) rfl)) rfl, Or.inl rfl, Or.inr ⟨rfl, rfl, rfl⟩⟩
set_option maxRecDepth 100000 in
theorem kf_X_20_7 : kFld RX 20 7 2 := ⟨RX, TX, 14, "CipherModes", rfl, by decide, kuX, Or.inl (kt (List.mem_append_left _ (List.mem_of_getElem? (i := 239) rfl)) rfl), Or.inl rfl⟩
set_option maxRecDepth 100000 in
theorem kp_X_20_7_t : kPutW true RX 20 7 2 (.array .int) := ⟨RX, TX, 14, "CipherModes", tyX, rfl, by decide, kuX, tyoX, nmX, rfl, kt (List.mem_append_left _ (List.mem_of_getElem? (i := 239) rfl)) rfl, Or.inl rfl, Or.inr ⟨rfl, rfl, rfl⟩⟩
set_option maxRecDepth 100000 in
theorem kf_X_23_7 : kFld RX 23 7 3 := ⟨RX, TX, 14, "CipherModes", rfl, by decide, kuX, Or.inl (kt (List.mem_append_right _ (List.mem_append_left _ (List.mem_of_getElem? (i := 0) rfl))) rfl), Or.inl rfl⟩
set_option maxRecDepth 100000 in
theorem kp_X_23_7_t : kPutW true RX 23 7 3 (.array .int) := ⟨RX, TX, 14, "CipherModes", tyX, rfl, by decide, kuX, tyoX, nmX, rfl, kt (List.mem_append_right _ (List.mem_append_left _ (List.mem_of_getElem? (i := 0) rfl))) rfl, Or.inl rfl, Or.inr ⟨rfl, rfl, rfl⟩⟩
set_option maxRecDepth 100000 in
theorem kf_X_31_7 : kFld RX 31 7 4 := ⟨RX, TX, 14, "CipherModes", rfl, by decide, kuX, Or.inl (kt (List.mem_append_right _ (List.mem_append_left _ (List.mem_of_getElem? (i := 1) rfl))) rfl), Or.inl rfl⟩
set_option maxRecDepth 100000 in
theorem kp_X_31_7_t : kPutW true RX 31 7 4 (.object "CipherModes$BlockCipher") := ⟨RX, TX, 14, "CipherModes", tyX, rfl, by decide, kuX, tyoX, nmX, rfl, kt (List.mem_append_right _ (List.mem_append_left _ (List.mem_of_getElem? (i := 1) rfl))) rfl, Or.inl rfl, Or.inr ⟨rfl, rfl, rfl⟩⟩
set_option maxRecDepth 100000 in
theorem kf_X_35_7 : kFld RX 35 7 5 := ⟨RX, TX, 14, "CipherModes", rfl, by decide, kuX, Or.inl (kt (List.mem_append_right _ (List.mem_append_left _ (List.mem_of_getElem? (i := 2) rfl))) rfl), Or.inl rfl⟩
set_option maxRecDepth 100000 in
theorem kp_X_35_7_t : kPutW true RX 35 7 5 (.object "CipherModes$BlockCipher") := ⟨RX, TX, 14, "CipherModes", tyX, rfl, by decide, kuX, tyoX, nmX, rfl, kt (List.mem_append_right _ (List.mem_append_left _ (List.mem_of_getElem? (i := 2) rfl))) rfl, Or.inl rfl, Or.inr ⟨rfl, rfl, rfl⟩⟩
set_option maxRecDepth 100000 in
theorem kf_X_41_7 : kFld RX 41 7 6 := ⟨RX, TX, 14, "CipherModes", rfl, by decide, kuX, Or.inl (kt (List.mem_append_right _ (List.mem_append_left _ (List.mem_of_getElem? (i := 3) rfl))) rfl), Or.inl rfl⟩
set_option maxRecDepth 100000 in
theorem kp_X_41_7_t : kPutW true RX 41 7 6 (.object "CipherModes$Output") := ⟨RX, TX, 14, "CipherModes", tyX, rfl, by decide, kuX, tyoX, nmX, rfl, kt (List.mem_append_right _ (List.mem_append_left _ (List.mem_of_getElem? (i := 3) rfl))) rfl, Or.inl rfl, Or.inr ⟨rfl, rfl, rfl⟩⟩
set_option maxRecDepth 100000 in
theorem kf_X_50_7 : kFld RX 50 7 7 := ⟨RX, TX, 14, "CipherModes", rfl, by decide, kuX, Or.inl (kt (List.mem_append_right _ (List.mem_append_left _ (List.mem_of_getElem? (i := 4) rfl))) rfl), Or.inl rfl⟩
set_option maxRecDepth 100000 in
theorem kp_X_50_7_t : kPutW true RX 50 7 7 (.object "CipherModes$Mode") := ⟨RX, TX, 14, "CipherModes", tyX, rfl, by decide, kuX, tyoX, nmX, rfl, kt (List.mem_append_right _ (List.mem_append_left _ (List.mem_of_getElem? (i := 4) rfl))) rfl, Or.inl rfl, Or.inr ⟨rfl, rfl, rfl⟩⟩
set_option maxRecDepth 100000 in
theorem kf_X_57_7 : kFld RX 57 7 8 := ⟨RX, TX, 14, "CipherModes", rfl, by decide, kuX, Or.inl (kt (List.mem_append_right _ (List.mem_append_left _ (List.mem_of_getElem? (i := 5) rfl))) rfl), Or.inl rfl⟩
set_option maxRecDepth 100000 in
theorem kp_X_57_7_t : kPutW true RX 57 7 8 (.object "CipherModes$Mode") := ⟨RX, TX, 14, "CipherModes", tyX, rfl, by decide, kuX, tyoX, nmX, rfl, kt (List.mem_append_right _ (List.mem_append_left _ (List.mem_of_getElem? (i := 5) rfl))) rfl, Or.inl rfl, Or.inr ⟨rfl, rfl, rfl⟩⟩
set_option maxRecDepth 100000 in
theorem kf_X_63_7 : kFld RX 63 7 9 := ⟨RX, TX, 14, "CipherModes", rfl, by decide, kuX, Or.inl (kt (List.mem_append_right _ (List.mem_append_left _ (List.mem_of_getElem? (i := 6) rfl))) rfl), Or.inl rfl⟩
set_option maxRecDepth 100000 in
theorem kp_X_63_7_t : kPutW true RX 63 7 9 (.object "CipherModes$Mode") := ⟨RX, TX, 14, "CipherModes", tyX, rfl, by decide, kuX, tyoX, nmX, rfl, kt (List.mem_append_right _ (List.mem_append_left _ (List.mem_of_getElem? (i := 6) rfl))) rfl, Or.inl rfl, Or.inr ⟨rfl, rfl, rfl⟩⟩
set_option maxRecDepth 100000 in
theorem kf_X_69_7 : kFld RX 69 7 10 := ⟨RX, TX, 14, "CipherModes", rfl, by decide, kuX, Or.inl (kt (List.mem_append_right _ (List.mem_append_left _ (List.mem_of_getElem? (i := 7) rfl))) rfl), Or.inl rfl⟩
set_option maxRecDepth 100000 in
theorem kp_X_69_7_t : kPutW true RX 69 7 10 (.object "CipherModes$Mode") := ⟨RX, TX, 14, "CipherModes", tyX, rfl, by decide, kuX, tyoX, nmX, rfl, kt (List.mem_append_right _ (List.mem_append_left _ (List.mem_of_getElem? (i := 7) rfl))) rfl, Or.inl rfl, Or.inr ⟨rfl, rfl, rfl⟩⟩
set_option maxRecDepth 100000 in
theorem kf_X_72_7 : kFld RX 72 7 11 := ⟨RX, TX, 14, "CipherModes", rfl, by decide, kuX, Or.inl (kt (List.mem_append_right _ (List.mem_append_left _ (List.mem_of_getElem? (i := 8) rfl))) rfl), Or.inl rfl⟩
set_option maxRecDepth 100000 in
theorem kp_X_72_7_f : kPutW false RX 72 7 11 (.object "CipherModes$Mode") := ⟨RX, TX, 14, "CipherModes", tyX, rfl, by decide, kuX, tyoX, nmX, rfl, kt (List.mem_append_right _ (List.mem_append_left _ (List.mem_of_getElem? (i := 8) rfl))) rfl, Or.inl rfl, Or.inl rfl⟩
set_option maxRecDepth 100000 in
theorem kp_X_72_7_t : kPutW true RX 72 7 11 (.object "CipherModes$Mode") := ⟨RX, TX, 14, "CipherModes", tyX, rfl, by decide, kuX, tyoX, nmX, rfl, kt (List.mem_append_right _ (List.mem_append_left _ (List.mem_of_getElem? (i := 8) rfl))) rfl, Or.inl rfl, Or.inl rfl⟩
set_option maxRecDepth 100000 in
theorem kf_X_75_7 : kFld RX 75 7 12 := ⟨RX, TX, 14, "CipherModes", rfl, by decide, kuX, Or.inl (kt (List.mem_append_right _ (List.mem_append_left _ (List.mem_of_getElem? (i := 9) rfl))) rfl), Or.inl rfl⟩
set_option maxRecDepth 100000 in
theorem kp_X_75_7_f : kPutW false RX 75 7 12 (.boolean) := ⟨RX, TX, 14, "CipherModes", tyX, rfl, by decide, kuX, tyoX, nmX, rfl, kt (List.mem_append_right _ (List.mem_append_left _ (List.mem_of_getElem? (i := 9) rfl))) rfl, Or.inl rfl, Or.inl rfl⟩
set_option maxRecDepth 100000 in
theorem kp_X_75_7_t : kPutW true RX 75 7 12 (.boolean) := ⟨RX, TX, 14, "CipherModes", tyX, rfl, by decide, kuX, tyoX, nmX, rfl, kt (List.mem_append_right _ (List.mem_append_left _ (List.mem_of_getElem? (i := 9) rfl))) rfl, Or.inl rfl, Or.inl rfl⟩
set_option maxRecDepth 100000 in
theorem kf_X_79_7 : kFld RX 79 7 13 := ⟨RX, TX, 14, "CipherModes", rfl, by decide, kuX, Or.inl (kt (List.mem_append_right _ (List.mem_append_left _ (List.mem_of_getElem? (i := 10) rfl))) rfl), Or.inl rfl⟩
set_option maxRecDepth 100000 in
theorem kp_X_79_7_f : kPutW false RX 79 7 13 (.int) := ⟨RX, TX, 14, "CipherModes", tyX, rfl, by decide, kuX, tyoX, nmX, rfl, kt (List.mem_append_right _ (List.mem_append_left _ (List.mem_of_getElem? (i := 10) rfl))) rfl, Or.inl rfl, Or.inl rfl⟩
set_option maxRecDepth 100000 in
theorem kp_X_79_7_t : kPutW true RX 79 7 13 (.int) := ⟨RX, TX, 14, "CipherModes", tyX, rfl, by decide, kuX, tyoX, nmX, rfl, kt (List.mem_append_right _ (List.mem_append_left _ (List.mem_of_getElem? (i := 10) rfl))) rfl, Or.inl rfl, Or.inl rfl⟩
set_option maxRecDepth 100000 in
theorem kf_M_7_8 : kFld RM 7 8 0 := ⟨RM, TM, 22, "CipherModesModel", rfl, by decide, kuM, Or.inl (kt (List.mem_append_right _ (List.mem_append_right _ (List.mem_append_left _ (List.mem_of_getElem? (i := 103) rfl)))) rfl), Or.inl rfl⟩
set_option maxRecDepth 100000 in
theorem kp_M_7_8_t : kPutW true RM 7 8 0 (.array .int) := ⟨RM, TM, 22, "CipherModesModel", tyM, rfl, by decide, kuM, tyoM, nmM, rfl, kt (List.mem_append_right _ (List.mem_append_right _ (List.mem_append_left _ (List.mem_of_getElem? (i := 103) rfl)))) rfl, Or.inl rfl, Or.inr ⟨rfl, rfl, rfl⟩⟩
set_option maxRecDepth 100000 in
theorem kf_M_13_8 : kFld RM 13 8 1 := ⟨RM, TM, 22, "CipherModesModel", rfl, by decide, kuM, Or.inl (kt (List.mem_append_right _ (List.mem_append_right _ (List.mem_append_left _ (List.mem_of_getElem? (i := 104) rfl)))) rfl), Or.inl rfl⟩
set_option maxRecDepth 100000 in
theorem kp_M_13_8_t : kPutW true RM 13 8 1 (.array .int) := ⟨RM, TM, 22, "CipherModesModel", tyM, rfl, by decide, kuM, tyoM, nmM, rfl, kt (List.mem_append_right _ (List.mem_append_right _ (List.mem_append_left _ (List.mem_of_getElem? (i := 104) rfl)))) rfl, Or.inl rfl, Or.inr ⟨rfl, rfl, rfl⟩⟩
set_option maxRecDepth 100000 in
theorem kf_M_16_8 : kFld RM 16 8 2 := ⟨RM, TM, 22, "CipherModesModel", rfl, by decide, kuM, Or.inl (kt (List.mem_append_right _ (List.mem_append_right _ (List.mem_append_left _ (List.mem_of_getElem? (i := 105) rfl)))) rfl), Or.inl rfl⟩
set_option maxRecDepth 100000 in
theorem kp_M_16_8_t : kPutW true RM 16 8 2 (.array .int) := ⟨RM, TM, 22, "CipherModesModel", tyM, rfl, by decide, kuM, tyoM, nmM, rfl, kt (List.mem_append_right _ (List.mem_append_right _ (List.mem_append_left _ (List.mem_of_getElem? (i := 105) rfl)))) rfl, Or.inl rfl, Or.inr ⟨rfl, rfl, rfl⟩⟩
set_option maxRecDepth 100000 in
theorem kf_M_19_8 : kFld RM 19 8 3 := ⟨RM, TM, 22, "CipherModesModel", rfl, by decide, kuM, Or.inl (kt (List.mem_append_right _ (List.mem_append_right _ (List.mem_append_left _ (List.mem_of_getElem? (i := 106) rfl)))) rfl), Or.inl rfl⟩
set_option maxRecDepth 100000 in
theorem kp_M_19_8_t : kPutW true RM 19 8 3 (.array .int) := ⟨RM, TM, 22, "CipherModesModel", tyM, rfl, by decide, kuM, tyoM, nmM, rfl, kt (List.mem_append_right _ (List.mem_append_right _ (List.mem_append_left _ (List.mem_of_getElem? (i := 106) rfl)))) rfl, Or.inl rfl, Or.inr ⟨rfl, rfl, rfl⟩⟩
set_option maxRecDepth 100000 in
theorem kf_M_22_8 : kFld RM 22 8 4 := ⟨RM, TM, 22, "CipherModesModel", rfl, by decide, kuM, Or.inl (kt (List.mem_append_right _ (List.mem_append_right _ (List.mem_append_left _ (List.mem_of_getElem? (i := 107) rfl)))) rfl), Or.inl rfl⟩
set_option maxRecDepth 100000 in
theorem kp_M_22_8_t : kPutW true RM 22 8 4 (.array .int) := ⟨RM, TM, 22, "CipherModesModel", tyM, rfl, by decide, kuM, tyoM, nmM, rfl, kt (List.mem_append_right _ (List.mem_append_right _ (List.mem_append_left _ (List.mem_of_getElem? (i := 107) rfl)))) rfl, Or.inl rfl, Or.inr ⟨rfl, rfl, rfl⟩⟩
set_option maxRecDepth 100000 in
theorem kf_M_25_8 : kFld RM 25 8 5 := ⟨RM, TM, 22, "CipherModesModel", rfl, by decide, kuM, Or.inl (kt (List.mem_append_right _ (List.mem_append_right _ (List.mem_append_left _ (List.mem_of_getElem? (i := 108) rfl)))) rfl), Or.inl rfl⟩
set_option maxRecDepth 100000 in
theorem kp_M_25_8_t : kPutW true RM 25 8 5 (.array .int) := ⟨RM, TM, 22, "CipherModesModel", tyM, rfl, by decide, kuM, tyoM, nmM, rfl, kt (List.mem_append_right _ (List.mem_append_right _ (List.mem_append_left _ (List.mem_of_getElem? (i := 108) rfl)))) rfl, Or.inl rfl, Or.inr ⟨rfl, rfl, rfl⟩⟩
set_option maxRecDepth 100000 in
theorem kf_M_28_8 : kFld RM 28 8 6 := ⟨RM, TM, 22, "CipherModesModel", rfl, by decide, kuM, Or.inl (kt (List.mem_append_right _ (List.mem_append_right _ (List.mem_append_left _ (List.mem_of_getElem? (i := 109) rfl)))) rfl), Or.inl rfl⟩
set_option maxRecDepth 100000 in
theorem kp_M_28_8_t : kPutW true RM 28 8 6 (.array .int) := ⟨RM, TM, 22, "CipherModesModel", tyM, rfl, by decide, kuM, tyoM, nmM, rfl, kt (List.mem_append_right _ (List.mem_append_right _ (List.mem_append_left _ (List.mem_of_getElem? (i := 109) rfl)))) rfl, Or.inl rfl, Or.inr ⟨rfl, rfl, rfl⟩⟩
set_option maxRecDepth 100000 in
theorem kf_M_31_8 : kFld RM 31 8 7 := ⟨RM, TM, 22, "CipherModesModel", rfl, by decide, kuM, Or.inl (kt (List.mem_append_right _ (List.mem_append_right _ (List.mem_append_left _ (List.mem_of_getElem? (i := 110) rfl)))) rfl), Or.inl rfl⟩
set_option maxRecDepth 100000 in
theorem kp_M_31_8_f : kPutW false RM 31 8 7 (.int) := ⟨RM, TM, 22, "CipherModesModel", tyM, rfl, by decide, kuM, tyoM, nmM, rfl, kt (List.mem_append_right _ (List.mem_append_right _ (List.mem_append_left _ (List.mem_of_getElem? (i := 110) rfl)))) rfl, Or.inl rfl, Or.inl rfl⟩
set_option maxRecDepth 100000 in
theorem kp_M_31_8_t : kPutW true RM 31 8 7 (.int) := ⟨RM, TM, 22, "CipherModesModel", tyM, rfl, by decide, kuM, tyoM, nmM, rfl, kt (List.mem_append_right _ (List.mem_append_right _ (List.mem_append_left _ (List.mem_of_getElem? (i := 110) rfl)))) rfl, Or.inl rfl, Or.inl rfl⟩
set_option maxRecDepth 100000 in
theorem kf_M_83_8 : kFld RM 83 8 8 := ⟨RM, TM, 22, "CipherModesModel", rfl, by decide, kuM, Or.inl (kt (List.mem_append_right _ (List.mem_append_right _ (List.mem_append_left _ (List.mem_of_getElem? (i := 111) rfl)))) rfl), Or.inl rfl⟩
set_option maxRecDepth 100000 in
theorem kp_M_83_8_f : kPutW false RM 83 8 8 (.int) := ⟨RM, TM, 22, "CipherModesModel", tyM, rfl, by decide, kuM, tyoM, nmM, rfl, kt (List.mem_append_right _ (List.mem_append_right _ (List.mem_append_left _ (List.mem_of_getElem? (i := 111) rfl)))) rfl, Or.inl rfl, Or.inl rfl⟩
set_option maxRecDepth 100000 in
theorem kp_M_83_8_t : kPutW true RM 83 8 8 (.int) := ⟨RM, TM, 22, "CipherModesModel", tyM, rfl, by decide, kuM, tyoM, nmM, rfl, kt (List.mem_append_right _ (List.mem_append_right _ (List.mem_append_left _ (List.mem_of_getElem? (i := 111) rfl)))) rfl, Or.inl rfl, Or.inl rfl⟩
set_option maxRecDepth 100000 in
theorem kf_M_101_8 : kFld RM 101 8 9 := ⟨RM, TM, 22, "CipherModesModel", rfl, by decide, kuM, Or.inl (kt (List.mem_append_right _ (List.mem_append_right _ (List.mem_append_left _ (List.mem_of_getElem? (i := 112) rfl)))) rfl), Or.inl rfl⟩
set_option maxRecDepth 100000 in
theorem kp_M_101_8_f : kPutW false RM 101 8 9 (.boolean) := ⟨RM, TM, 22, "CipherModesModel", tyM, rfl, by decide, kuM, tyoM, nmM, rfl, kt (List.mem_append_right _ (List.mem_append_right _ (List.mem_append_left _ (List.mem_of_getElem? (i := 112) rfl)))) rfl, Or.inl rfl, Or.inl rfl⟩
set_option maxRecDepth 100000 in
theorem kp_M_101_8_t : kPutW true RM 101 8 9 (.boolean) := ⟨RM, TM, 22, "CipherModesModel", tyM, rfl, by decide, kuM, tyoM, nmM, rfl, kt (List.mem_append_right _ (List.mem_append_right _ (List.mem_append_left _ (List.mem_of_getElem? (i := 112) rfl)))) rfl, Or.inl rfl, Or.inl rfl⟩
set_option maxRecDepth 100000 in
theorem kf_M_105_8 : kFld RM 105 8 10 := ⟨RM, TM, 22, "CipherModesModel", rfl, by decide, kuM, Or.inl (kt (List.mem_append_right _ (List.mem_append_right _ (List.mem_append_left _ (List.mem_of_getElem? (i := 113) rfl)))) rfl), Or.inl rfl⟩
set_option maxRecDepth 100000 in
theorem kp_M_105_8_f : kPutW false RM 105 8 10 (.boolean) := ⟨RM, TM, 22, "CipherModesModel", tyM, rfl, by decide, kuM, tyoM, nmM, rfl, kt (List.mem_append_right _ (List.mem_append_right _ (List.mem_append_left _ (List.mem_of_getElem? (i := 113) rfl)))) rfl, Or.inl rfl, Or.inl rfl⟩
set_option maxRecDepth 100000 in
theorem kp_M_105_8_t : kPutW true RM 105 8 10 (.boolean) := ⟨RM, TM, 22, "CipherModesModel", tyM, rfl, by decide, kuM, tyoM, nmM, rfl, kt (List.mem_append_right _ (List.mem_append_right _ (List.mem_append_left _ (List.mem_of_getElem? (i := 113) rfl)))) rfl, Or.inl rfl, Or.inl rfl⟩
set_option maxRecDepth 100000 in
theorem kf_M_35_8 : kFld RM 35 8 11 := ⟨RM, TM, 22, "CipherModesModel", rfl, by decide, kuM, Or.inl (kt (List.mem_append_right _ (List.mem_append_right _ (List.mem_append_left _ (List.mem_of_getElem? (i := 114) rfl)))) rfl), Or.inl rfl⟩
set_option maxRecDepth 100000 in
theorem kp_M_35_8_t : kPutW true RM 35 8 11 (.array .int) := ⟨RM, TM, 22, "CipherModesModel", tyM, rfl, by decide, kuM, tyoM, nmM, rfl, kt (List.mem_append_right _ (List.mem_append_right _ (List.mem_append_left _ (List.mem_of_getElem? (i := 114) rfl)))) rfl, Or.inl rfl, Or.inr ⟨rfl, rfl, rfl⟩⟩
set_option maxRecDepth 100000 in
theorem kf_M_38_8 : kFld RM 38 8 12 := ⟨RM, TM, 22, "CipherModesModel", rfl, by decide, kuM, Or.inl (kt (List.mem_append_right _ (List.mem_append_right _ (List.mem_append_left _ (List.mem_of_getElem? (i := 115) rfl)))) rfl), Or.inl rfl⟩
set_option maxRecDepth 100000 in
theorem kp_M_38_8_t : kPutW true RM 38 8 12 (.array .int) := ⟨RM, TM, 22, "CipherModesModel", tyM, rfl, by decide, kuM, tyoM, nmM, rfl, kt (List.mem_append_right _ (List.mem_append_right _ (List.mem_append_left _ (List.mem_of_getElem? (i := 115) rfl)))) rfl, Or.inl rfl, Or.inr ⟨rfl, rfl, rfl⟩⟩
set_option maxRecDepth 100000 in
theorem kf_M_108_8 : kFld RM 108 8 13 := ⟨RM, TM, 22, "CipherModesModel", rfl, by decide, kuM, Or.inl (kt (List.mem_append_right _ (List.mem_append_right _ (List.mem_append_left _ (List.mem_of_getElem? (i := 116) rfl)))) rfl), Or.inl rfl⟩
set_option maxRecDepth 100000 in
theorem kp_M_108_8_f : kPutW false RM 108 8 13 (.int) := ⟨RM, TM, 22, "CipherModesModel", tyM, rfl, by decide, kuM, tyoM, nmM, rfl, kt (List.mem_append_right _ (List.mem_append_right _ (List.mem_append_left _ (List.mem_of_getElem? (i := 116) rfl)))) rfl, Or.inl rfl, Or.inl rfl⟩
set_option maxRecDepth 100000 in
theorem kp_M_108_8_t : kPutW true RM 108 8 13 (.int) := ⟨RM, TM, 22, "CipherModesModel", tyM, rfl, by decide, kuM, tyoM, nmM, rfl, kt (List.mem_append_right _ (List.mem_append_right _ (List.mem_append_left _ (List.mem_of_getElem? (i := 116) rfl)))) rfl, Or.inl rfl, Or.inl rfl⟩
set_option maxRecDepth 100000 in
theorem kf_M_41_8 : kFld RM 41 8 14 := ⟨RM, TM, 22, "CipherModesModel", rfl, by decide, kuM, Or.inl (kt (List.mem_append_right _ (List.mem_append_right _ (List.mem_append_left _ (List.mem_of_getElem? (i := 117) rfl)))) rfl), Or.inl rfl⟩
set_option maxRecDepth 100000 in
theorem kp_M_41_8_t : kPutW true RM 41 8 14 (.array .int) := ⟨RM, TM, 22, "CipherModesModel", tyM, rfl, by decide, kuM, tyoM, nmM, rfl, kt (List.mem_append_right _ (List.mem_append_right _ (List.mem_append_left _ (List.mem_of_getElem? (i := 117) rfl)))) rfl, Or.inl rfl, Or.inr ⟨rfl, rfl, rfl⟩⟩
set_option maxRecDepth 100000 in
theorem kf_M_111_8 : kFld RM 111 8 15 := ⟨RM, TM, 22, "CipherModesModel", rfl, by decide, kuM, Or.inl (kt (List.mem_append_right _ (List.mem_append_right _ (List.mem_append_left _ (List.mem_of_getElem? (i := 118) rfl)))) rfl), Or.inl rfl⟩
set_option maxRecDepth 100000 in
theorem kp_M_111_8_f : kPutW false RM 111 8 15 (.int) := ⟨RM, TM, 22, "CipherModesModel", tyM, rfl, by decide, kuM, tyoM, nmM, rfl, kt (List.mem_append_right _ (List.mem_append_right _ (List.mem_append_left _ (List.mem_of_getElem? (i := 118) rfl)))) rfl, Or.inl rfl, Or.inl rfl⟩
set_option maxRecDepth 100000 in
theorem kp_M_111_8_t : kPutW true RM 111 8 15 (.int) := ⟨RM, TM, 22, "CipherModesModel", tyM, rfl, by decide, kuM, tyoM, nmM, rfl, kt (List.mem_append_right _ (List.mem_append_right _ (List.mem_append_left _ (List.mem_of_getElem? (i := 118) rfl)))) rfl, Or.inl rfl, Or.inl rfl⟩
set_option maxRecDepth 100000 in
theorem kf_M_44_8 : kFld RM 44 8 16 := ⟨RM, TM, 22, "CipherModesModel", rfl, by decide, kuM, Or.inl (kt (List.mem_append_right _ (List.mem_append_right _ (List.mem_append_left _ (List.mem_of_getElem? (i := 119) rfl)))) rfl), Or.inl rfl⟩
set_option maxRecDepth 100000 in
theorem kp_M_44_8_t : kPutW true RM 44 8 16 (.array .int) := ⟨RM, TM, 22, "CipherModesModel", tyM, rfl, by decide, kuM, tyoM, nmM, rfl, kt (List.mem_append_right _ (List.mem_append_right _ (List.mem_append_left _ (List.mem_of_getElem? (i := 119) rfl)))) rfl, Or.inl rfl, Or.inr ⟨rfl, rfl, rfl⟩⟩
set_option maxRecDepth 100000 in
theorem kf_M_114_8 : kFld RM 114 8 17 := ⟨RM, TM, 22, "CipherModesModel", rfl, by decide, kuM, Or.inl (kt (List.mem_append_right _ (List.mem_append_right _ (List.mem_append_left _ (List.mem_of_getElem? (i := 120) rfl)))) rfl), Or.inl rfl⟩
set_option maxRecDepth 100000 in
theorem kp_M_114_8_f : kPutW false RM 114 8 17 (.int) := ⟨RM, TM, 22, "CipherModesModel", tyM, rfl, by decide, kuM, tyoM, nmM, rfl, kt (List.mem_append_right _ (List.mem_append_right _ (List.mem_append_left _ (List.mem_of_getElem? (i := 120) rfl)))) rfl, Or.inl rfl, Or.inl rfl⟩
set_option maxRecDepth 100000 in
theorem kp_M_114_8_t : kPutW true RM 114 8 17 (.int) := ⟨RM, TM, 22, "CipherModesModel", tyM, rfl, by decide, kuM, tyoM, nmM, rfl, kt (List.mem_append_right _ (List.mem_append_right _ (List.mem_append_left _ (List.mem_of_getElem? (i := 120) rfl)))) rfl, Or.inl rfl, Or.inl rfl⟩
set_option maxRecDepth 100000 in
theorem kf_M_47_8 : kFld RM 47 8 18 := ⟨RM, TM, 22, "CipherModesModel", rfl, by decide, kuM, Or.inl (kt (List.mem_append_right _ (List.mem_append_right _ (List.mem_append_left _ (List.mem_of_getElem? (i := 121) rfl)))) rfl), Or.inl rfl⟩
set_option maxRecDepth 100000 in
theorem kp_M_47_8_t : kPutW true RM 47 8 18 (.array .int) := ⟨RM, TM, 22, "CipherModesModel", tyM, rfl, by decide, kuM, tyoM, nmM, rfl, kt (List.mem_append_right _ (List.mem_append_right _ (List.mem_append_left _ (List.mem_of_getElem? (i := 121) rfl)))) rfl, Or.inl rfl, Or.inr ⟨rfl, rfl, rfl⟩⟩
set_option maxRecDepth 100000 in
theorem kf_M_50_8 : kFld RM 50 8 19 := ⟨RM, TM, 22, "CipherModesModel", rfl, by decide, kuM, Or.inl (kt (List.mem_append_right _ (List.mem_append_right _ (List.mem_append_left _ (List.mem_of_getElem? (i := 122) rfl)))) rfl), Or.inl rfl⟩
set_option maxRecDepth 100000 in
theorem kp_M_50_8_t : kPutW true RM 50 8 19 (.array .int) := ⟨RM, TM, 22, "CipherModesModel", tyM, rfl, by decide, kuM, tyoM, nmM, rfl, kt (List.mem_append_right _ (List.mem_append_right _ (List.mem_append_left _ (List.mem_of_getElem? (i := 122) rfl)))) rfl, Or.inl rfl, Or.inr ⟨rfl, rfl, rfl⟩⟩
set_option maxRecDepth 100000 in
theorem kf_M_53_8 : kFld RM 53 8 20 := ⟨RM, TM, 22, "CipherModesModel", rfl, by decide, kuM, Or.inl (kt (List.mem_append_right _ (List.mem_append_right _ (List.mem_append_left _ (List.mem_of_getElem? (i := 123) rfl)))) rfl), Or.inl rfl⟩
set_option maxRecDepth 100000 in
theorem kp_M_53_8_t : kPutW true RM 53 8 20 (.array .int) := ⟨RM, TM, 22, "CipherModesModel", tyM, rfl, by decide, kuM, tyoM, nmM, rfl, kt (List.mem_append_right _ (List.mem_append_right _ (List.mem_append_left _ (List.mem_of_getElem? (i := 123) rfl)))) rfl, Or.inl rfl, Or.inr ⟨rfl, rfl, rfl⟩⟩
set_option maxRecDepth 100000 in
theorem kf_M_56_8 : kFld RM 56 8 21 := ⟨RM, TM, 22, "CipherModesModel", rfl, by decide, kuM, Or.inl (kt (List.mem_append_right _ (List.mem_append_right _ (List.mem_append_left _ (List.mem_of_getElem? (i := 124) rfl)))) rfl), Or.inl rfl⟩
set_option maxRecDepth 100000 in
theorem kp_M_56_8_t : kPutW true RM 56 8 21 (.array .int) := ⟨RM, TM, 22, "CipherModesModel", tyM, rfl, by decide, kuM, tyoM, nmM, rfl, kt (List.mem_append_right _ (List.mem_append_right _ (List.mem_append_left _ (List.mem_of_getElem? (i := 124) rfl)))) rfl, Or.inl rfl, Or.inr ⟨rfl, rfl, rfl⟩⟩
set_option maxRecDepth 100000 in
theorem kl_L_9 : kLinkI RL 9 y_X_init := ⟨kt (List.mem_append_left _ (List.mem_of_getElem? (i := 17) rfl)) rfl, rfl, Or.inl (kt (List.mem_append_left _ (List.mem_of_getElem? (i := 16) rfl)) rfl)⟩
set_option maxRecDepth 100000 in
theorem kl_X_1 : Cond.methodLink RX 1 Lib.objectInit ∈ kWS := kt (List.mem_append_left _ (List.mem_of_getElem? (i := 19) rfl)) rfl
set_option maxRecDepth 100000 in
theorem kl_X_9 : kLinkI RX 9 y_BX_init := ⟨kt (List.mem_append_left _ (List.mem_of_getElem? (i := 25) rfl)) rfl, rfl, Or.inl (kt (List.mem_append_left _ (List.mem_of_getElem? (i := 24) rfl)) rfl)⟩
set_option maxRecDepth 100000 in
theorem kl_BX_1 : Cond.methodLink RBX 1 Lib.objectInit ∈ kWS := kt (List.mem_append_left _ (List.mem_of_getElem? (i := 27) rfl)) rfl
set_option maxRecDepth 100000 in
theorem kl_BX_16 : kLinkS RBX 16 y_BX_twice := ⟨kt (List.mem_append_left _ (List.mem_of_getElem? (i := 29) rfl)) rfl, Or.inl (kt (List.mem_append_left _ (List.mem_of_getElem? (i := 28) rfl)) rfl)⟩
set_option maxRecDepth 100000 in
theorem kl_BX_20 : kLinkS RBX 20 y_BX_boxOfInverse := ⟨kt (List.mem_append_left _ (List.mem_of_getElem? (i := 32) rfl)) rfl, Or.inl (kt (List.mem_append_left _ (List.mem_of_getElem? (i := 31) rfl)) rfl)⟩
set_option maxRecDepth 100000 in
theorem kl_BX_23_BX : kLinkV RBX 23 RBX y_BX_pair := ⟨kt (List.mem_append_left _ (List.mem_of_getElem? (i := 36) rfl)) rfl, Or.inl ⟨kp (List.mem_map.mpr ⟨(y_BX_pair, 2), List.mem_append_left _ (List.mem_of_getElem? (i := 0) rfl), rfl⟩) rfl, Or.inl (kt (List.mem_append_left _ (List.mem_of_getElem? (i := 34) rfl)) rfl)⟩⟩
set_option maxRecDepth 100000 in
theorem kl_X_28 : kLinkI RX 28 y_BC_init := ⟨kt (List.mem_append_left _ (List.mem_of_getElem? (i := 51) rfl)) rfl, rfl, Or.inl (kt (List.mem_append_left _ (List.mem_of_getElem? (i := 50) rfl)) rfl)⟩
set_option maxRecDepth 100000 in
theorem kl_BC_1 : Cond.methodLink RBC 1 Lib.objectInit ∈ kWS := kt (List.mem_append_left _ (List.mem_of_getElem? (i := 53) rfl)) rfl
set_option maxRecDepth 100000 in
theorem kl_X_40 : kLinkI RX 40 y_OU_init := ⟨kt (List.mem_append_left _ (List.mem_of_getElem? (i := 70) rfl)) rfl, rfl, Or.inr ⟨_, ktn (List.mem_append_left _ (List.mem_of_getElem? (i := 69) rfl)) rfl⟩⟩
set_option maxRecDepth 100000 in
theorem kl_OU_3 : Cond.methodLink ROU 3 Lib.objectInit ∈ kWS := kt (List.mem_append_left _ (List.mem_of_getElem? (i := 72) rfl)) rfl
set_option maxRecDepth 100000 in
theorem kl_X_47 : kLinkI RX 47 y_CH_init := ⟨kt (List.mem_append_left _ (List.mem_of_getElem? (i := 83) rfl)) rfl, rfl, Or.inl (kt (List.mem_append_left _ (List.mem_of_getElem? (i := 82) rfl)) rfl)⟩
set_option maxRecDepth 100000 in
theorem kl_CH_3 : kLinkI RCH 3 y_BM_init := ⟨kt (List.mem_append_left _ (List.mem_of_getElem? (i := 86) rfl)) rfl, rfl, Or.inl (kt (List.mem_append_left _ (List.mem_of_getElem? (i := 85) rfl)) rfl)⟩
set_option maxRecDepth 100000 in
theorem kl_BM_3 : kLinkI RBM 3 y_MO_init := ⟨kt (List.mem_append_left _ (List.mem_of_getElem? (i := 89) rfl)) rfl, rfl, Or.inl (kt (List.mem_append_left _ (List.mem_of_getElem? (i := 88) rfl)) rfl)⟩
set_option maxRecDepth 100000 in
theorem kl_MO_3 : Cond.methodLink RMO 3 Lib.objectInit ∈ kWS := kt (List.mem_append_left _ (List.mem_of_getElem? (i := 91) rfl)) rfl
set_option maxRecDepth 100000 in
theorem kl_X_56 : kLinkI RX 56 y_ST_init := ⟨kt (List.mem_append_left _ (List.mem_of_getElem? (i := 186) rfl)) rfl, rfl, Or.inl (kt (List.mem_append_left _ (List.mem_of_getElem? (i := 185) rfl)) rfl)⟩
set_option maxRecDepth 100000 in
theorem kl_ST_3 : kLinkI RST 3 y_CH_init := ⟨kt (List.mem_append_left _ (List.mem_of_getElem? (i := 83) rfl)) rfl, rfl, Or.inl (kt (List.mem_append_left _ (List.mem_of_getElem? (i := 188) rfl)) rfl)⟩
set_option maxRecDepth 100000 in
theorem kl_X_62 : kLinkI RX 62 y_SM_init := ⟨kt (List.mem_append_left _ (List.mem_of_getElem? (i := 203) rfl)) rfl, rfl, Or.inl (kt (List.mem_append_left _ (List.mem_of_getElem? (i := 202) rfl)) rfl)⟩
set_option maxRecDepth 100000 in
theorem kl_SM_3 : kLinkI RSM 3 y_MO_init := ⟨kt (List.mem_append_left _ (List.mem_of_getElem? (i := 89) rfl)) rfl, rfl, Or.inl (kt (List.mem_append_left _ (List.mem_of_getElem? (i := 205) rfl)) rfl)⟩
set_option maxRecDepth 100000 in
theorem kl_X_68 : kLinkI RX 68 y_TW_init := ⟨kt (List.mem_append_left _ (List.mem_of_getElem? (i := 221) rfl)) rfl, rfl, Or.inl (kt (List.mem_append_left _ (List.mem_of_getElem? (i := 220) rfl)) rfl)⟩
set_option maxRecDepth 100000 in
theorem kl_TW_3 : kLinkI RTW 3 y_BM_init := ⟨kt (List.mem_append_left _ (List.mem_of_getElem? (i := 86) rfl)) rfl, rfl, Or.inl (kt (List.mem_append_left _ (List.mem_of_getElem? (i := 223) rfl)) rfl)⟩
set_option maxRecDepth 100000 in
theorem kl_L_15_X : kLinkV RL 15 RX y_X_key := ⟨kt (List.mem_append_right _ (List.mem_append_left _ (List.mem_of_getElem? (i := 41) rfl))) rfl, Or.inl ⟨kt (List.mem_append_right _ (List.mem_append_left _ (List.mem_of_getElem? (i := 42) rfl))) rfl, Or.inl (kt (List.mem_append_right _ (List.mem_append_left _ (List.mem_of_getElem? (i := 40) rfl))) rfl)⟩⟩
set_option maxRecDepth 100000 in
theorem kl_X_83 : kLinkS RX 83 y_RW_putLong := ⟨kt (List.mem_append_right _ (List.mem_append_left _ (List.mem_of_getElem? (i := 45) rfl))) rfl, Or.inl (kt (List.mem_append_right _ (List.mem_append_left _ (List.mem_of_getElem? (i := 44) rfl))) rfl)⟩
set_option maxRecDepth 100000 in
theorem kl_L_20_X : kLinkV RL 20 RX y_X_initial := ⟨kt (List.mem_append_right _ (List.mem_append_left _ (List.mem_of_getElem? (i := 48) rfl))) rfl, Or.inl ⟨kt (List.mem_append_right _ (List.mem_append_left _ (List.mem_of_getElem? (i := 49) rfl))) rfl, Or.inl (kt (List.mem_append_right _ (List.mem_append_left _ (List.mem_of_getElem? (i := 47) rfl))) rfl)⟩⟩
set_option maxRecDepth 100000 in
theorem kl_L_24_X : kLinkV RL 24 RX y_X_begin := ⟨kt (List.mem_append_right _ (List.mem_append_left _ (List.mem_of_getElem? (i := 52) rfl))) rfl, Or.inl ⟨kt (List.mem_append_right _ (List.mem_append_left _ (List.mem_of_getElem? (i := 53) rfl))) rfl, Or.inl (kt (List.mem_append_right _ (List.mem_append_left _ (List.mem_of_getElem? (i := 51) rfl))) rfl)⟩⟩
set_option maxRecDepth 100000 in
theorem kl_X_89 : kLinkS RX 89 y_X_isKeySize := ⟨kt (List.mem_append_right _ (List.mem_append_left _ (List.mem_of_getElem? (i := 56) rfl))) rfl, Or.inl (kt (List.mem_append_right _ (List.mem_append_left _ (List.mem_of_getElem? (i := 55) rfl))) rfl)⟩
set_option maxRecDepth 100000 in
theorem kl_X_93 : kLinkS RX 93 y_X_isDirection := ⟨kt (List.mem_append_right _ (List.mem_append_left _ (List.mem_of_getElem? (i := 59) rfl))) rfl, Or.inl (kt (List.mem_append_right _ (List.mem_append_left _ (List.mem_of_getElem? (i := 58) rfl))) rfl)⟩
set_option maxRecDepth 100000 in
theorem kl_X_96 : kLinkS RX 96 y_RW_copy := ⟨kt (List.mem_append_right _ (List.mem_append_left _ (List.mem_of_getElem? (i := 62) rfl))) rfl, Or.inl (kt (List.mem_append_right _ (List.mem_append_left _ (List.mem_of_getElem? (i := 61) rfl))) rfl)⟩
set_option maxRecDepth 100000 in
theorem kl_RW_17 : Cond.methodLink RRW 17 arraycopyName ∈ kWS := kt (List.mem_append_right _ (List.mem_append_left _ (List.mem_of_getElem? (i := 64) rfl))) rfl
set_option maxRecDepth 100000 in
theorem kl_X_100_BC : kLinkV RX 100 RBC y_BC_takeKey := ⟨kt (List.mem_append_right _ (List.mem_append_left _ (List.mem_of_getElem? (i := 68) rfl))) rfl, Or.inl ⟨kt (List.mem_append_right _ (List.mem_append_left _ (List.mem_of_getElem? (i := 69) rfl))) rfl, Or.inl (kt (List.mem_append_right _ (List.mem_append_left _ (List.mem_of_getElem? (i := 67) rfl))) rfl)⟩⟩
set_option maxRecDepth 100000 in
theorem kl_BC_27 : kLinkS RBC 27 y_RW_wordAt := ⟨kt (List.mem_append_right _ (List.mem_append_left _ (List.mem_of_getElem? (i := 72) rfl))) rfl, Or.inl (kt (List.mem_append_right _ (List.mem_append_left _ (List.mem_of_getElem? (i := 71) rfl))) rfl)⟩
set_option maxRecDepth 100000 in
theorem kl_BC_33_BC : kLinkV RBC 33 RBC y_BC_boxed := ⟨kt (List.mem_append_right _ (List.mem_append_left _ (List.mem_of_getElem? (i := 76) rfl))) rfl, Or.inl ⟨kp (List.mem_map.mpr ⟨(y_BC_boxed, 4), List.mem_append_left _ (List.mem_of_getElem? (i := 1) rfl), rfl⟩) rfl, Or.inl (kt (List.mem_append_right _ (List.mem_append_left _ (List.mem_of_getElem? (i := 74) rfl))) rfl)⟩⟩
set_option maxRecDepth 100000 in
theorem kl_BC_40 : kLinkS RBC 40 y_BC_picked := ⟨kt (List.mem_append_right _ (List.mem_append_left _ (List.mem_of_getElem? (i := 79) rfl))) rfl, Or.inl (kt (List.mem_append_right _ (List.mem_append_left _ (List.mem_of_getElem? (i := 78) rfl))) rfl)⟩
set_option maxRecDepth 100000 in
theorem kl_BC_37 : kLinkS RBC 37 y_BX_twice := ⟨kt (List.mem_append_left _ (List.mem_of_getElem? (i := 29) rfl)) rfl, Or.inl (kt (List.mem_append_right _ (List.mem_append_left _ (List.mem_of_getElem? (i := 81) rfl))) rfl)⟩
set_option maxRecDepth 100000 in
theorem kl_X_104_BC : kLinkV RX 104 RBC y_BC_hide := ⟨kt (List.mem_append_right _ (List.mem_append_left _ (List.mem_of_getElem? (i := 83) rfl))) rfl, Or.inl ⟨kt (List.mem_append_right _ (List.mem_append_left _ (List.mem_of_getElem? (i := 84) rfl))) rfl, Or.inl (kt (List.mem_append_right _ (List.mem_append_left _ (List.mem_of_getElem? (i := 82) rfl))) rfl)⟩⟩
set_option maxRecDepth 100000 in
theorem kl_BC_51 : kLinkS RBC 51 y_BC_mixed := ⟨kt (List.mem_append_right _ (List.mem_append_left _ (List.mem_of_getElem? (i := 87) rfl))) rfl, Or.inl (kt (List.mem_append_right _ (List.mem_append_left _ (List.mem_of_getElem? (i := 86) rfl))) rfl)⟩
set_option maxRecDepth 100000 in
theorem kl_BC_61 : kLinkS RBC 61 y_BC_twiceEachByte := ⟨kt (List.mem_append_right _ (List.mem_append_left _ (List.mem_of_getElem? (i := 90) rfl))) rfl, Or.inl (kt (List.mem_append_right _ (List.mem_append_left _ (List.mem_of_getElem? (i := 89) rfl))) rfl)⟩
set_option maxRecDepth 100000 in
theorem kl_BC_54 : kLinkS RBC 54 y_RW_putWord := ⟨kt (List.mem_append_right _ (List.mem_append_left _ (List.mem_of_getElem? (i := 95) rfl))) rfl, Or.inl (kt (List.mem_append_right _ (List.mem_append_left _ (List.mem_of_getElem? (i := 94) rfl))) rfl)⟩
set_option maxRecDepth 100000 in
theorem kl_X_108_OU : kLinkV RX 108 ROU y_OU_clear := ⟨kt (List.mem_append_right _ (List.mem_append_left _ (List.mem_of_getElem? (i := 98) rfl))) rfl, Or.inl ⟨kt (List.mem_append_right _ (List.mem_append_left _ (List.mem_of_getElem? (i := 99) rfl))) rfl, Or.inl (kt (List.mem_append_right _ (List.mem_append_left _ (List.mem_of_getElem? (i := 97) rfl))) rfl)⟩⟩
set_option maxRecDepth 100000 in
theorem kl_X_111_X : kLinkV RX 111 RX y_X_modeOf := ⟨kt (List.mem_append_right _ (List.mem_append_left _ (List.mem_of_getElem? (i := 103) rfl))) rfl, Or.inl ⟨kp (List.mem_map.mpr ⟨(y_X_modeOf, 14), List.mem_append_left _ (List.mem_of_getElem? (i := 2) rfl), rfl⟩) rfl, Or.inl (kt (List.mem_append_right _ (List.mem_append_left _ (List.mem_of_getElem? (i := 101) rfl))) rfl)⟩⟩
set_option maxRecDepth 100000 in
theorem kl_X_115_CH : kLinkV RX 115 RCH y_MO_start := ⟨kt (List.mem_append_right _ (List.mem_append_left _ (List.mem_of_getElem? (i := 106) rfl))) rfl, Or.inl ⟨kt (List.mem_append_right _ (List.mem_append_left _ (List.mem_of_getElem? (i := 108) rfl))) rfl, Or.inl (kt (List.mem_append_right _ (List.mem_append_left _ (List.mem_of_getElem? (i := 105) rfl))) rfl)⟩⟩
set_option maxRecDepth 100000 in
theorem kl_X_115_ST : kLinkV RX 115 RST y_MO_start := ⟨kt (List.mem_append_right _ (List.mem_append_left _ (List.mem_of_getElem? (i := 106) rfl))) rfl, Or.inl ⟨kt (List.mem_append_right _ (List.mem_append_left _ (List.mem_of_getElem? (i := 109) rfl))) rfl, Or.inl (kt (List.mem_append_right _ (List.mem_append_left _ (List.mem_of_getElem? (i := 105) rfl))) rfl)⟩⟩
set_option maxRecDepth 100000 in
theorem kl_X_115_SM : kLinkV RX 115 RSM y_MO_start := ⟨kt (List.mem_append_right _ (List.mem_append_left _ (List.mem_of_getElem? (i := 106) rfl))) rfl, Or.inl ⟨kt (List.mem_append_right _ (List.mem_append_left _ (List.mem_of_getElem? (i := 110) rfl))) rfl, Or.inl (kt (List.mem_append_right _ (List.mem_append_left _ (List.mem_of_getElem? (i := 105) rfl))) rfl)⟩⟩
set_option maxRecDepth 100000 in
theorem kl_X_115_TW : kLinkV RX 115 RTW y_MO_start := ⟨kt (List.mem_append_right _ (List.mem_append_left _ (List.mem_of_getElem? (i := 106) rfl))) rfl, Or.inl ⟨kt (List.mem_append_right _ (List.mem_append_left _ (List.mem_of_getElem? (i := 111) rfl))) rfl, Or.inl (kt (List.mem_append_right _ (List.mem_append_left _ (List.mem_of_getElem? (i := 105) rfl))) rfl)⟩⟩
set_option maxRecDepth 100000 in
theorem kl_MO_31 : kLinkS RMO 31 y_RW_copy := ⟨kt (List.mem_append_right _ (List.mem_append_left _ (List.mem_of_getElem? (i := 62) rfl))) rfl, Or.inl (kt (List.mem_append_right _ (List.mem_append_left _ (List.mem_of_getElem? (i := 113) rfl))) rfl)⟩
set_option maxRecDepth 100000 in
theorem kl_MO_37_CH : kLinkV RMO 37 RCH y_BM_forgetRest := ⟨kt (List.mem_append_right _ (List.mem_append_left _ (List.mem_of_getElem? (i := 118) rfl))) rfl, Or.inr ⟨⟨"CipherModes$Mode", "forgetRest", "()V"⟩, "CipherModes$Mode", kt (List.mem_append_right _ (List.mem_append_left _ (List.mem_of_getElem? (i := 114) rfl))) rfl, kt (List.mem_append_right _ (List.mem_append_left _ (List.mem_of_getElem? (i := 116) rfl))) rfl, kt (List.mem_append_right _ (List.mem_append_left _ (List.mem_of_getElem? (i := 117) rfl))) rfl, rfl, by decide, by decide, Or.inl (ktn (List.mem_append_right _ (List.mem_append_left _ (List.mem_of_getElem? (i := 115) rfl))) rfl)⟩⟩
set_option maxRecDepth 100000 in
theorem kl_MO_37_ST : kLinkV RMO 37 RST y_BM_forgetRest := ⟨kt (List.mem_append_right _ (List.mem_append_left _ (List.mem_of_getElem? (i := 118) rfl))) rfl, Or.inr ⟨⟨"CipherModes$Mode", "forgetRest", "()V"⟩, "CipherModes$Mode", kt (List.mem_append_right _ (List.mem_append_left _ (List.mem_of_getElem? (i := 114) rfl))) rfl, kt (List.mem_append_right _ (List.mem_append_left _ (List.mem_of_getElem? (i := 116) rfl))) rfl, kt (List.mem_append_right _ (List.mem_append_left _ (List.mem_of_getElem? (i := 120) rfl))) rfl, rfl, by decide, by decide, Or.inl (ktn (List.mem_append_right _ (List.mem_append_left _ (List.mem_of_getElem? (i := 115) rfl))) rfl)⟩⟩
set_option maxRecDepth 100000 in
theorem kl_MO_37_SM : kLinkV RMO 37 RSM y_SM_forgetRest := ⟨kt (List.mem_append_right _ (List.mem_append_left _ (List.mem_of_getElem? (i := 122) rfl))) rfl, Or.inr ⟨⟨"CipherModes$Mode", "forgetRest", "()V"⟩, "CipherModes$Mode", kt (List.mem_append_right _ (List.mem_append_left _ (List.mem_of_getElem? (i := 114) rfl))) rfl, kt (List.mem_append_right _ (List.mem_append_left _ (List.mem_of_getElem? (i := 116) rfl))) rfl, kt (List.mem_append_right _ (List.mem_append_left _ (List.mem_of_getElem? (i := 121) rfl))) rfl, rfl, by decide, by decide, Or.inl (ktn (List.mem_append_right _ (List.mem_append_left _ (List.mem_of_getElem? (i := 115) rfl))) rfl)⟩⟩
set_option maxRecDepth 100000 in
theorem kl_MO_37_TW : kLinkV RMO 37 RTW y_BM_forgetRest := ⟨kt (List.mem_append_right _ (List.mem_append_left _ (List.mem_of_getElem? (i := 118) rfl))) rfl, Or.inr ⟨⟨"CipherModes$Mode", "forgetRest", "()V"⟩, "CipherModes$Mode", kt (List.mem_append_right _ (List.mem_append_left _ (List.mem_of_getElem? (i := 114) rfl))) rfl, kt (List.mem_append_right _ (List.mem_append_left _ (List.mem_of_getElem? (i := 116) rfl))) rfl, kt (List.mem_append_right _ (List.mem_append_left _ (List.mem_of_getElem? (i := 124) rfl))) rfl, rfl, by decide, by decide, Or.inl (ktn (List.mem_append_right _ (List.mem_append_left _ (List.mem_of_getElem? (i := 115) rfl))) rfl)⟩⟩
set_option maxRecDepth 100000 in
theorem kl_L_29_X : kLinkV RL 29 RX y_X_feed := ⟨kt (List.mem_append_right _ (List.mem_append_left _ (List.mem_of_getElem? (i := 126) rfl))) rfl, Or.inl ⟨kt (List.mem_append_right _ (List.mem_append_left _ (List.mem_of_getElem? (i := 127) rfl))) rfl, Or.inl (kt (List.mem_append_right _ (List.mem_append_left _ (List.mem_of_getElem? (i := 125) rfl))) rfl)⟩⟩
set_option maxRecDepth 100000 in
theorem kl_X_121_CH : kLinkV RX 121 RCH y_BM_take := ⟨kt (List.mem_append_right _ (List.mem_append_left _ (List.mem_of_getElem? (i := 133) rfl))) rfl, Or.inr ⟨⟨"CipherModes$Mode", "take", "(I)V"⟩, "CipherModes$Mode", kt (List.mem_append_right _ (List.mem_append_left _ (List.mem_of_getElem? (i := 129) rfl))) rfl, kt (List.mem_append_right _ (List.mem_append_left _ (List.mem_of_getElem? (i := 131) rfl))) rfl, kt (List.mem_append_right _ (List.mem_append_left _ (List.mem_of_getElem? (i := 132) rfl))) rfl, rfl, by decide, by decide, Or.inl (ktn (List.mem_append_right _ (List.mem_append_left _ (List.mem_of_getElem? (i := 130) rfl))) rfl)⟩⟩
set_option maxRecDepth 100000 in
theorem kl_X_121_ST : kLinkV RX 121 RST y_BM_take := ⟨kt (List.mem_append_right _ (List.mem_append_left _ (List.mem_of_getElem? (i := 133) rfl))) rfl, Or.inr ⟨⟨"CipherModes$Mode", "take", "(I)V"⟩, "CipherModes$Mode", kt (List.mem_append_right _ (List.mem_append_left _ (List.mem_of_getElem? (i := 129) rfl))) rfl, kt (List.mem_append_right _ (List.mem_append_left _ (List.mem_of_getElem? (i := 131) rfl))) rfl, kt (List.mem_append_right _ (List.mem_append_left _ (List.mem_of_getElem? (i := 197) rfl))) rfl, rfl, by decide, by decide, Or.inl (ktn (List.mem_append_right _ (List.mem_append_left _ (List.mem_of_getElem? (i := 130) rfl))) rfl)⟩⟩
set_option maxRecDepth 100000 in
theorem kl_X_121_SM : kLinkV RX 121 RSM y_SM_take := ⟨kt (List.mem_append_right _ (List.mem_append_left _ (List.mem_of_getElem? (i := 199) rfl))) rfl, Or.inr ⟨⟨"CipherModes$Mode", "take", "(I)V"⟩, "CipherModes$Mode", kt (List.mem_append_right _ (List.mem_append_left _ (List.mem_of_getElem? (i := 129) rfl))) rfl, kt (List.mem_append_right _ (List.mem_append_left _ (List.mem_of_getElem? (i := 131) rfl))) rfl, kt (List.mem_append_right _ (List.mem_append_left _ (List.mem_of_getElem? (i := 198) rfl))) rfl, rfl, by decide, by decide, Or.inl (ktn (List.mem_append_right _ (List.mem_append_left _ (List.mem_of_getElem? (i := 130) rfl))) rfl)⟩⟩
set_option maxRecDepth 100000 in
theorem kl_X_121_TW : kLinkV RX 121 RTW y_BM_take := ⟨kt (List.mem_append_right _ (List.mem_append_left _ (List.mem_of_getElem? (i := 133) rfl))) rfl, Or.inr ⟨⟨"CipherModes$Mode", "take", "(I)V"⟩, "CipherModes$Mode", kt (List.mem_append_right _ (List.mem_append_left _ (List.mem_of_getElem? (i := 129) rfl))) rfl, kt (List.mem_append_right _ (List.mem_append_left _ (List.mem_of_getElem? (i := 131) rfl))) rfl, kt (List.mem_append_right _ (List.mem_append_left _ (List.mem_of_getElem? (i := 213) rfl))) rfl, rfl, by decide, by decide, Or.inl (ktn (List.mem_append_right _ (List.mem_append_left _ (List.mem_of_getElem? (i := 130) rfl))) rfl)⟩⟩
set_option maxRecDepth 100000 in
theorem kl_BM_25_CH : kLinkV RBM 25 RCH y_CH_neededBehind := ⟨kt (List.mem_append_right _ (List.mem_append_left _ (List.mem_of_getElem? (i := 139) rfl))) rfl, Or.inr ⟨⟨"CipherModes$BlockMode", "neededBehind", "()I"⟩, "CipherModes$BlockMode", kt (List.mem_append_right _ (List.mem_append_left _ (List.mem_of_getElem? (i := 135) rfl))) rfl, kt (List.mem_append_right _ (List.mem_append_left _ (List.mem_of_getElem? (i := 137) rfl))) rfl, kt (List.mem_append_right _ (List.mem_append_left _ (List.mem_of_getElem? (i := 138) rfl))) rfl, rfl, by decide, by decide, Or.inl (ktn (List.mem_append_right _ (List.mem_append_left _ (List.mem_of_getElem? (i := 136) rfl))) rfl)⟩⟩
set_option maxRecDepth 100000 in
theorem kl_BM_25_ST : kLinkV RBM 25 RST y_ST_neededBehind := ⟨kt (List.mem_append_right _ (List.mem_append_left _ (List.mem_of_getElem? (i := 142) rfl))) rfl, Or.inr ⟨⟨"CipherModes$BlockMode", "neededBehind", "()I"⟩, "CipherModes$BlockMode", kt (List.mem_append_right _ (List.mem_append_left _ (List.mem_of_getElem? (i := 135) rfl))) rfl, kt (List.mem_append_right _ (List.mem_append_left _ (List.mem_of_getElem? (i := 137) rfl))) rfl, kt (List.mem_append_right _ (List.mem_append_left _ (List.mem_of_getElem? (i := 141) rfl))) rfl, rfl, by decide, by decide, Or.inl (ktn (List.mem_append_right _ (List.mem_append_left _ (List.mem_of_getElem? (i := 136) rfl))) rfl)⟩⟩
set_option maxRecDepth 100000 in
theorem kl_BM_25_TW : kLinkV RBM 25 RTW y_TW_neededBehind := ⟨kt (List.mem_append_right _ (List.mem_append_left _ (List.mem_of_getElem? (i := 145) rfl))) rfl, Or.inr ⟨⟨"CipherModes$BlockMode", "neededBehind", "()I"⟩, "CipherModes$BlockMode", kt (List.mem_append_right _ (List.mem_append_left _ (List.mem_of_getElem? (i := 135) rfl))) rfl, kt (List.mem_append_right _ (List.mem_append_left _ (List.mem_of_getElem? (i := 137) rfl))) rfl, kt (List.mem_append_right _ (List.mem_append_left _ (List.mem_of_getElem? (i := 144) rfl))) rfl, rfl, by decide, by decide, Or.inl (ktn (List.mem_append_right _ (List.mem_append_left _ (List.mem_of_getElem? (i := 136) rfl))) rfl)⟩⟩
set_option maxRecDepth 100000 in
theorem kl_BM_29_CH : kLinkV RBM 29 RCH y_BM_giveFirstBlock := ⟨kt (List.mem_append_right _ (List.mem_append_left _ (List.mem_of_getElem? (i := 148) rfl))) rfl, Or.inl ⟨kt (List.mem_append_right _ (List.mem_append_left _ (List.mem_of_getElem? (i := 150) rfl))) rfl, Or.inl (kt (List.mem_append_right _ (List.mem_append_left _ (List.mem_of_getElem? (i := 147) rfl))) rfl)⟩⟩
set_option maxRecDepth 100000 in
theorem kl_BM_29_ST : kLinkV RBM 29 RST y_BM_giveFirstBlock := ⟨kt (List.mem_append_right _ (List.mem_append_left _ (List.mem_of_getElem? (i := 148) rfl))) rfl, Or.inl ⟨kt (List.mem_append_right _ (List.mem_append_left _ (List.mem_of_getElem? (i := 151) rfl))) rfl, Or.inl (kt (List.mem_append_right _ (List.mem_append_left _ (List.mem_of_getElem? (i := 147) rfl))) rfl)⟩⟩
set_option maxRecDepth 100000 in
theorem kl_BM_29_TW : kLinkV RBM 29 RTW y_BM_giveFirstBlock := ⟨kt (List.mem_append_right _ (List.mem_append_left _ (List.mem_of_getElem? (i := 148) rfl))) rfl, Or.inl ⟨kt (List.mem_append_right _ (List.mem_append_left _ (List.mem_of_getElem? (i := 152) rfl))) rfl, Or.inl (kt (List.mem_append_right _ (List.mem_append_left _ (List.mem_of_getElem? (i := 147) rfl))) rfl)⟩⟩
set_option maxRecDepth 100000 in
theorem kl_BM_33 : kLinkS RBM 33 y_RW_copy := ⟨kt (List.mem_append_right _ (List.mem_append_left _ (List.mem_of_getElem? (i := 62) rfl))) rfl, Or.inl (kt (List.mem_append_right _ (List.mem_append_left _ (List.mem_of_getElem? (i := 154) rfl))) rfl)⟩
set_option maxRecDepth 100000 in
theorem kl_BM_39 : Cond.methodLink RBM 39 arraycopyName ∈ kWS := kt (List.mem_append_right _ (List.mem_append_left _ (List.mem_of_getElem? (i := 155) rfl))) rfl
set_option maxRecDepth 100000 in
theorem kl_BM_45_CH : kLinkV RBM 45 RCH y_CH_step := ⟨kt (List.mem_append_right _ (List.mem_append_left _ (List.mem_of_getElem? (i := 160) rfl))) rfl, Or.inr ⟨⟨"CipherModes$BlockMode", "step", "([I)V"⟩, "CipherModes$BlockMode", kt (List.mem_append_right _ (List.mem_append_left _ (List.mem_of_getElem? (i := 156) rfl))) rfl, kt (List.mem_append_right _ (List.mem_append_left _ (List.mem_of_getElem? (i := 158) rfl))) rfl, kt (List.mem_append_right _ (List.mem_append_left _ (List.mem_of_getElem? (i := 159) rfl))) rfl, rfl, by decide, by decide, Or.inl (ktn (List.mem_append_right _ (List.mem_append_left _ (List.mem_of_getElem? (i := 157) rfl))) rfl)⟩⟩
set_option maxRecDepth 100000 in
theorem kl_BM_45_ST : kLinkV RBM 45 RST y_CH_step := ⟨kt (List.mem_append_right _ (List.mem_append_left _ (List.mem_of_getElem? (i := 160) rfl))) rfl, Or.inr ⟨⟨"CipherModes$BlockMode", "step", "([I)V"⟩, "CipherModes$BlockMode", kt (List.mem_append_right _ (List.mem_append_left _ (List.mem_of_getElem? (i := 156) rfl))) rfl, kt (List.mem_append_right _ (List.mem_append_left _ (List.mem_of_getElem? (i := 158) rfl))) rfl, kt (List.mem_append_right _ (List.mem_append_left _ (List.mem_of_getElem? (i := 180) rfl))) rfl, rfl, by decide, by decide, Or.inl (ktn (List.mem_append_right _ (List.mem_append_left _ (List.mem_of_getElem? (i := 157) rfl))) rfl)⟩⟩
set_option maxRecDepth 100000 in
theorem kl_BM_45_TW : kLinkV RBM 45 RTW y_TW_step := ⟨kt (List.mem_append_right _ (List.mem_append_left _ (List.mem_of_getElem? (i := 182) rfl))) rfl, Or.inr ⟨⟨"CipherModes$BlockMode", "step", "([I)V"⟩, "CipherModes$BlockMode", kt (List.mem_append_right _ (List.mem_append_left _ (List.mem_of_getElem? (i := 156) rfl))) rfl, kt (List.mem_append_right _ (List.mem_append_left _ (List.mem_of_getElem? (i := 158) rfl))) rfl, kt (List.mem_append_right _ (List.mem_append_left _ (List.mem_of_getElem? (i := 181) rfl))) rfl, rfl, by decide, by decide, Or.inl (ktn (List.mem_append_right _ (List.mem_append_left _ (List.mem_of_getElem? (i := 157) rfl))) rfl)⟩⟩
set_option maxRecDepth 100000 in
theorem kl_CH_27_BC : kLinkV RCH 27 RBC y_BC_turn := ⟨kt (List.mem_append_right _ (List.mem_append_left _ (List.mem_of_getElem? (i := 163) rfl))) rfl, Or.inl ⟨kt (List.mem_append_right _ (List.mem_append_left _ (List.mem_of_getElem? (i := 164) rfl))) rfl, Or.inl (kt (List.mem_append_right _ (List.mem_append_left _ (List.mem_of_getElem? (i := 162) rfl))) rfl)⟩⟩
set_option maxRecDepth 100000 in
theorem kl_BC_44_BC : kLinkV RBC 44 RBC y_BC_show := ⟨kt (List.mem_append_right _ (List.mem_append_left _ (List.mem_of_getElem? (i := 167) rfl))) rfl, Or.inl ⟨kt (List.mem_append_right _ (List.mem_append_left _ (List.mem_of_getElem? (i := 168) rfl))) rfl, Or.inl (kt (List.mem_append_right _ (List.mem_append_left _ (List.mem_of_getElem? (i := 166) rfl))) rfl)⟩⟩
set_option maxRecDepth 100000 in
theorem kl_BC_58 : kLinkS RBC 58 y_BC_mixedTwice := ⟨kt (List.mem_append_right _ (List.mem_append_left _ (List.mem_of_getElem? (i := 171) rfl))) rfl, Or.inl (kt (List.mem_append_right _ (List.mem_append_left _ (List.mem_of_getElem? (i := 170) rfl))) rfl)⟩
set_option maxRecDepth 100000 in
theorem kl_BC_48_BC : kLinkV RBC 48 RBC y_BC_hide := ⟨kt (List.mem_append_right _ (List.mem_append_left _ (List.mem_of_getElem? (i := 83) rfl))) rfl, Or.inl ⟨kt (List.mem_append_right _ (List.mem_append_left _ (List.mem_of_getElem? (i := 84) rfl))) rfl, Or.inl (kt (List.mem_append_right _ (List.mem_append_left _ (List.mem_of_getElem? (i := 173) rfl))) rfl)⟩⟩
set_option maxRecDepth 100000 in
theorem kl_CH_33 : kLinkS RCH 33 y_RW_copy := ⟨kt (List.mem_append_right _ (List.mem_append_left _ (List.mem_of_getElem? (i := 62) rfl))) rfl, Or.inl (kt (List.mem_append_right _ (List.mem_append_left _ (List.mem_of_getElem? (i := 174) rfl))) rfl)⟩
set_option maxRecDepth 100000 in
theorem kl_CH_39_BC : kLinkV RCH 39 RBC y_BC_show := ⟨kt (List.mem_append_right _ (List.mem_append_left _ (List.mem_of_getElem? (i := 167) rfl))) rfl, Or.inl ⟨kt (List.mem_append_right _ (List.mem_append_left _ (List.mem_of_getElem? (i := 168) rfl))) rfl, Or.inl (kt (List.mem_append_right _ (List.mem_append_left _ (List.mem_of_getElem? (i := 175) rfl))) rfl)⟩⟩
set_option maxRecDepth 100000 in
theorem kl_CH_46 : kLinkS RCH 46 y_RW_xor := ⟨kt (List.mem_append_right _ (List.mem_append_left _ (List.mem_of_getElem? (i := 177) rfl))) rfl, Or.inl (kt (List.mem_append_right _ (List.mem_append_left _ (List.mem_of_getElem? (i := 176) rfl))) rfl)⟩
set_option maxRecDepth 100000 in
theorem kl_CH_49_BC : kLinkV RCH 49 RBC y_BC_hide := ⟨kt (List.mem_append_right _ (List.mem_append_left _ (List.mem_of_getElem? (i := 83) rfl))) rfl, Or.inl ⟨kt (List.mem_append_right _ (List.mem_append_left _ (List.mem_of_getElem? (i := 84) rfl))) rfl, Or.inl (kt (List.mem_append_right _ (List.mem_append_left _ (List.mem_of_getElem? (i := 179) rfl))) rfl)⟩⟩
set_option maxRecDepth 100000 in
theorem kl_TW_18 : kLinkS RTW 18 y_RW_xor := ⟨kt (List.mem_append_right _ (List.mem_append_left _ (List.mem_of_getElem? (i := 177) rfl))) rfl, Or.inl (kt (List.mem_append_right _ (List.mem_append_left _ (List.mem_of_getElem? (i := 184) rfl))) rfl)⟩
set_option maxRecDepth 100000 in
theorem kl_TW_32_BC : kLinkV RTW 32 RBC y_BC_turn := ⟨kt (List.mem_append_right _ (List.mem_append_left _ (List.mem_of_getElem? (i := 163) rfl))) rfl, Or.inl ⟨kt (List.mem_append_right _ (List.mem_append_left _ (List.mem_of_getElem? (i := 164) rfl))) rfl, Or.inl (kt (List.mem_append_right _ (List.mem_append_left _ (List.mem_of_getElem? (i := 185) rfl))) rfl)⟩⟩
set_option maxRecDepth 100000 in
theorem kl_TW_38 : kLinkS RTW 38 y_TW_doubleTweak := ⟨kt (List.mem_append_right _ (List.mem_append_left _ (List.mem_of_getElem? (i := 187) rfl))) rfl, Or.inl (kt (List.mem_append_right _ (List.mem_append_left _ (List.mem_of_getElem? (i := 186) rfl))) rfl)⟩
set_option maxRecDepth 100000 in
theorem kl_BM_53_OU : kLinkV RBM 53 ROU y_OU_addFirst := ⟨kt (List.mem_append_right _ (List.mem_append_left _ (List.mem_of_getElem? (i := 190) rfl))) rfl, Or.inl ⟨kt (List.mem_append_right _ (List.mem_append_left _ (List.mem_of_getElem? (i := 191) rfl))) rfl, Or.inl (kt (List.mem_append_right _ (List.mem_append_left _ (List.mem_of_getElem? (i := 189) rfl))) rfl)⟩⟩
set_option maxRecDepth 100000 in
theorem kl_OU_19_OU : kLinkV ROU 19 ROU y_OU_add := ⟨kt (List.mem_append_right _ (List.mem_append_left _ (List.mem_of_getElem? (i := 194) rfl))) rfl, Or.inl ⟨kt (List.mem_append_right _ (List.mem_append_left _ (List.mem_of_getElem? (i := 195) rfl))) rfl, Or.inl (kt (List.mem_append_right _ (List.mem_append_left _ (List.mem_of_getElem? (i := 193) rfl))) rfl)⟩⟩
set_option maxRecDepth 100000 in
theorem kl_SM_19_SM : kLinkV RSM 19 RSM y_SM_makeMask := ⟨kt (List.mem_append_right _ (List.mem_append_left _ (List.mem_of_getElem? (i := 203) rfl))) rfl, Or.inl ⟨kp (List.mem_map.mpr ⟨(y_SM_makeMask, 7), List.mem_append_left _ (List.mem_of_getElem? (i := 3) rfl), rfl⟩) rfl, Or.inl (kt (List.mem_append_right _ (List.mem_append_left _ (List.mem_of_getElem? (i := 201) rfl))) rfl)⟩⟩
set_option maxRecDepth 100000 in
theorem kl_SM_49 : kLinkS RSM 49 y_RW_copy := ⟨kt (List.mem_append_right _ (List.mem_append_left _ (List.mem_of_getElem? (i := 62) rfl))) rfl, Or.inl (kt (List.mem_append_right _ (List.mem_append_left _ (List.mem_of_getElem? (i := 205) rfl))) rfl)⟩
set_option maxRecDepth 100000 in
theorem kl_SM_59_BC : kLinkV RSM 59 RBC y_BC_hide := ⟨kt (List.mem_append_right _ (List.mem_append_left _ (List.mem_of_getElem? (i := 83) rfl))) rfl, Or.inl ⟨kt (List.mem_append_right _ (List.mem_append_left _ (List.mem_of_getElem? (i := 84) rfl))) rfl, Or.inl (kt (List.mem_append_right _ (List.mem_append_left _ (List.mem_of_getElem? (i := 206) rfl))) rfl)⟩⟩
set_option maxRecDepth 100000 in
theorem kl_SM_65_SM : kLinkV RSM 65 RSM y_SM_countLinkUp := ⟨kt (List.mem_append_right _ (List.mem_append_left _ (List.mem_of_getElem? (i := 209) rfl))) rfl, Or.inl ⟨kp (List.mem_map.mpr ⟨(y_SM_countLinkUp, 7), List.mem_append_left _ (List.mem_of_getElem? (i := 4) rfl), rfl⟩) rfl, Or.inl (kt (List.mem_append_right _ (List.mem_append_left _ (List.mem_of_getElem? (i := 207) rfl))) rfl)⟩⟩
set_option maxRecDepth 100000 in
theorem kl_SM_27_OU : kLinkV RSM 27 ROU y_OU_add := ⟨kt (List.mem_append_right _ (List.mem_append_left _ (List.mem_of_getElem? (i := 194) rfl))) rfl, Or.inl ⟨kt (List.mem_append_right _ (List.mem_append_left _ (List.mem_of_getElem? (i := 195) rfl))) rfl, Or.inl (kt (List.mem_append_right _ (List.mem_append_left _ (List.mem_of_getElem? (i := 211) rfl))) rfl)⟩⟩
set_option maxRecDepth 100000 in
theorem kl_SM_43 : Cond.methodLink RSM 43 arraycopyName ∈ kWS := kt (List.mem_append_right _ (List.mem_append_left _ (List.mem_of_getElem? (i := 212) rfl))) rfl
set_option maxRecDepth 100000 in
theorem kl_X_125_OU : kLinkV RX 125 ROU y_OU_count := ⟨kt (List.mem_append_right _ (List.mem_append_left _ (List.mem_of_getElem? (i := 215) rfl))) rfl, Or.inl ⟨kt (List.mem_append_right _ (List.mem_append_left _ (List.mem_of_getElem? (i := 216) rfl))) rfl, Or.inl (kt (List.mem_append_right _ (List.mem_append_left _ (List.mem_of_getElem? (i := 214) rfl))) rfl)⟩⟩
set_option maxRecDepth 100000 in
theorem kl_L_34_X : kLinkV RL 34 RX y_X_end := ⟨kt (List.mem_append_right _ (List.mem_append_left _ (List.mem_of_getElem? (i := 219) rfl))) rfl, Or.inl ⟨kt (List.mem_append_right _ (List.mem_append_left _ (List.mem_of_getElem? (i := 220) rfl))) rfl, Or.inl (kt (List.mem_append_right _ (List.mem_append_left _ (List.mem_of_getElem? (i := 218) rfl))) rfl)⟩⟩
set_option maxRecDepth 100000 in
theorem kl_X_129_CH : kLinkV RX 129 RCH y_CH_finish := ⟨kt (List.mem_append_right _ (List.mem_append_left _ (List.mem_of_getElem? (i := 226) rfl))) rfl, Or.inr ⟨⟨"CipherModes$Mode", "finish", "()I"⟩, "CipherModes$Mode", kt (List.mem_append_right _ (List.mem_append_left _ (List.mem_of_getElem? (i := 222) rfl))) rfl, kt (List.mem_append_right _ (List.mem_append_left _ (List.mem_of_getElem? (i := 224) rfl))) rfl, kt (List.mem_append_right _ (List.mem_append_left _ (List.mem_of_getElem? (i := 225) rfl))) rfl, rfl, by decide, by decide, Or.inl (ktn (List.mem_append_right _ (List.mem_append_left _ (List.mem_of_getElem? (i := 223) rfl))) rfl)⟩⟩
set_option maxRecDepth 100000 in
theorem kl_X_129_ST : kLinkV RX 129 RST y_ST_finish := ⟨kt (List.mem_append_right _ (List.mem_append_right _ (List.mem_append_left _ (List.mem_of_getElem? (i := 8) rfl)))) rfl, Or.inr ⟨⟨"CipherModes$Mode", "finish", "()I"⟩, "CipherModes$Mode", kt (List.mem_append_right _ (List.mem_append_left _ (List.mem_of_getElem? (i := 222) rfl))) rfl, kt (List.mem_append_right _ (List.mem_append_left _ (List.mem_of_getElem? (i := 224) rfl))) rfl, kt (List.mem_append_right _ (List.mem_append_right _ (List.mem_append_left _ (List.mem_of_getElem? (i := 7) rfl)))) rfl, rfl, by decide, by decide, Or.inl (ktn (List.mem_append_right _ (List.mem_append_left _ (List.mem_of_getElem? (i := 223) rfl))) rfl)⟩⟩
set_option maxRecDepth 100000 in
theorem kl_X_129_SM : kLinkV RX 129 RSM y_SM_finish := ⟨kt (List.mem_append_right _ (List.mem_append_right _ (List.mem_append_left _ (List.mem_of_getElem? (i := 35) rfl)))) rfl, Or.inr ⟨⟨"CipherModes$Mode", "finish", "()I"⟩, "CipherModes$Mode", kt (List.mem_append_right _ (List.mem_append_left _ (List.mem_of_getElem? (i := 222) rfl))) rfl, kt (List.mem_append_right _ (List.mem_append_left _ (List.mem_of_getElem? (i := 224) rfl))) rfl, kt (List.mem_append_right _ (List.mem_append_right _ (List.mem_append_left _ (List.mem_of_getElem? (i := 34) rfl)))) rfl, rfl, by decide, by decide, Or.inl (ktn (List.mem_append_right _ (List.mem_append_left _ (List.mem_of_getElem? (i := 223) rfl))) rfl)⟩⟩
set_option maxRecDepth 100000 in
theorem kl_X_129_TW : kLinkV RX 129 RTW y_TW_finish := ⟨kt (List.mem_append_right _ (List.mem_append_right _ (List.mem_append_left _ (List.mem_of_getElem? (i := 38) rfl)))) rfl, Or.inr ⟨⟨"CipherModes$Mode", "finish", "()I"⟩, "CipherModes$Mode", kt (List.mem_append_right _ (List.mem_append_left _ (List.mem_of_getElem? (i := 222) rfl))) rfl, kt (List.mem_append_right _ (List.mem_append_left _ (List.mem_of_getElem? (i := 224) rfl))) rfl, kt (List.mem_append_right _ (List.mem_append_right _ (List.mem_append_left _ (List.mem_of_getElem? (i := 37) rfl)))) rfl, rfl, by decide, by decide, Or.inl (ktn (List.mem_append_right _ (List.mem_append_left _ (List.mem_of_getElem? (i := 223) rfl))) rfl)⟩⟩
set_option maxRecDepth 100000 in
theorem kl_CH_55_CH : kLinkV RCH 55 RCH y_CH_giveUnpadded := ⟨kt (List.mem_append_right _ (List.mem_append_left _ (List.mem_of_getElem? (i := 230) rfl))) rfl, Or.inl ⟨kp (List.mem_map.mpr ⟨(y_CH_giveUnpadded, 10), List.mem_append_left _ (List.mem_of_getElem? (i := 5) rfl), rfl⟩) rfl, Or.inl (kt (List.mem_append_right _ (List.mem_append_left _ (List.mem_of_getElem? (i := 228) rfl))) rfl)⟩⟩
set_option maxRecDepth 100000 in
theorem kl_CH_72_CH : kLinkV RCH 72 RCH y_CH_step := ⟨kt (List.mem_append_right _ (List.mem_append_left _ (List.mem_of_getElem? (i := 160) rfl))) rfl, Or.inl ⟨kt (List.mem_append_right _ (List.mem_append_right _ (List.mem_append_right _ (List.mem_of_getElem? (i := 67) rfl)))) rfl, Or.inl (kt (List.mem_append_right _ (List.mem_append_left _ (List.mem_of_getElem? (i := 232) rfl))) rfl)⟩⟩
set_option maxRecDepth 100000 in
theorem kl_CH_72_ST : kLinkV RCH 72 RST y_CH_step := ⟨kt (List.mem_append_right _ (List.mem_append_left _ (List.mem_of_getElem? (i := 160) rfl))) rfl, Or.inl ⟨kt (List.mem_append_right _ (List.mem_append_right _ (List.mem_append_right _ (List.mem_of_getElem? (i := 68) rfl)))) rfl, Or.inl (kt (List.mem_append_right _ (List.mem_append_left _ (List.mem_of_getElem? (i := 232) rfl))) rfl)⟩⟩
set_option maxRecDepth 100000 in
theorem kl_CH_75_CH : kLinkV RCH 75 RCH y_CH_endsWithPadding := ⟨kt (List.mem_append_right _ (List.mem_append_left _ (List.mem_of_getElem? (i := 235) rfl))) rfl, Or.inl ⟨kp (List.mem_map.mpr ⟨(y_CH_endsWithPadding, 10), List.mem_append_left _ (List.mem_of_getElem? (i := 6) rfl), rfl⟩) rfl, Or.inl (kt (List.mem_append_right _ (List.mem_append_left _ (List.mem_of_getElem? (i := 233) rfl))) rfl)⟩⟩
set_option maxRecDepth 100000 in
theorem kl_CH_83_OU : kLinkV RCH 83 ROU y_OU_addFirst := ⟨kt (List.mem_append_right _ (List.mem_append_left _ (List.mem_of_getElem? (i := 190) rfl))) rfl, Or.inl ⟨kt (List.mem_append_right _ (List.mem_append_left _ (List.mem_of_getElem? (i := 191) rfl))) rfl, Or.inl (kt (List.mem_append_right _ (List.mem_append_left _ (List.mem_of_getElem? (i := 237) rfl))) rfl)⟩⟩
set_option maxRecDepth 100000 in
theorem kl_CH_59_CH : kLinkV RCH 59 RCH y_CH_fillWithPadding := ⟨kt (List.mem_append_right _ (List.mem_append_right _ (List.mem_append_left _ (List.mem_of_getElem? (i := 0) rfl)))) rfl, Or.inl ⟨kp (List.mem_map.mpr ⟨(y_CH_fillWithPadding, 10), List.mem_append_left _ (List.mem_of_getElem? (i := 7) rfl), rfl⟩) rfl, Or.inl (kt (List.mem_append_right _ (List.mem_append_left _ (List.mem_of_getElem? (i := 238) rfl))) rfl)⟩⟩
set_option maxRecDepth 100000 in
theorem kl_CH_63_CH : kLinkV RCH 63 RCH y_BM_giveFirstBlock := ⟨kt (List.mem_append_right _ (List.mem_append_left _ (List.mem_of_getElem? (i := 148) rfl))) rfl, Or.inr ⟨⟨"CipherModes$ChainedMode", "giveFirstBlock", "()V"⟩, "CipherModes$BlockMode", kt (List.mem_append_right _ (List.mem_append_right _ (List.mem_append_left _ (List.mem_of_getElem? (i := 2) rfl)))) rfl, kt (List.mem_append_right _ (List.mem_append_right _ (List.mem_append_left _ (List.mem_of_getElem? (i := 3) rfl)))) rfl, kt (List.mem_append_right _ (List.mem_append_right _ (List.mem_append_left _ (List.mem_of_getElem? (i := 5) rfl)))) rfl, rfl, by decide, by decide, Or.inl (ktn (List.mem_append_right _ (List.mem_append_right _ (List.mem_append_left _ (List.mem_of_getElem? (i := 4) rfl)))) rfl)⟩⟩
set_option maxRecDepth 100000 in
theorem kl_CH_63_ST : kLinkV RCH 63 RST y_BM_giveFirstBlock := ⟨kt (List.mem_append_right _ (List.mem_append_left _ (List.mem_of_getElem? (i := 148) rfl))) rfl, Or.inr ⟨⟨"CipherModes$ChainedMode", "giveFirstBlock", "()V"⟩, "CipherModes$BlockMode", kt (List.mem_append_right _ (List.mem_append_right _ (List.mem_append_left _ (List.mem_of_getElem? (i := 2) rfl)))) rfl, kt (List.mem_append_right _ (List.mem_append_right _ (List.mem_append_left _ (List.mem_of_getElem? (i := 3) rfl)))) rfl, kt (List.mem_append_right _ (List.mem_append_right _ (List.mem_append_left _ (List.mem_of_getElem? (i := 6) rfl)))) rfl, rfl, by decide, by decide, Or.inl (ktn (List.mem_append_right _ (List.mem_append_right _ (List.mem_append_left _ (List.mem_of_getElem? (i := 4) rfl)))) rfl)⟩⟩
set_option maxRecDepth 100000 in
theorem kl_ST_17_ST : kLinkV RST 17 RST y_BM_giveFirstBlock := ⟨kt (List.mem_append_right _ (List.mem_append_left _ (List.mem_of_getElem? (i := 148) rfl))) rfl, Or.inr ⟨⟨"CipherModes$StolenMode", "giveFirstBlock", "()V"⟩, "CipherModes$BlockMode", kt (List.mem_append_right _ (List.mem_append_right _ (List.mem_append_left _ (List.mem_of_getElem? (i := 10) rfl)))) rfl, kt (List.mem_append_right _ (List.mem_append_right _ (List.mem_append_left _ (List.mem_of_getElem? (i := 11) rfl)))) rfl, kt (List.mem_append_right _ (List.mem_append_right _ (List.mem_append_left _ (List.mem_of_getElem? (i := 12) rfl)))) rfl, rfl, by decide, by decide, Or.inl (ktn (List.mem_append_right _ (List.mem_append_right _ (List.mem_append_left _ (List.mem_of_getElem? (i := 4) rfl)))) rfl)⟩⟩
set_option maxRecDepth 100000 in
theorem kl_ST_25_ST : kLinkV RST 25 RST y_ST_giveShownTail := ⟨kt (List.mem_append_right _ (List.mem_append_right _ (List.mem_append_left _ (List.mem_of_getElem? (i := 15) rfl)))) rfl, Or.inl ⟨kp (List.mem_map.mpr ⟨(y_ST_giveShownTail, 10), List.mem_append_left _ (List.mem_of_getElem? (i := 8) rfl), rfl⟩) rfl, Or.inl (kt (List.mem_append_right _ (List.mem_append_right _ (List.mem_append_left _ (List.mem_of_getElem? (i := 13) rfl)))) rfl)⟩⟩
set_option maxRecDepth 100000 in
theorem kl_ST_55_ST : kLinkV RST 55 RST y_ST_cutBlockComesFirst := ⟨kt (List.mem_append_right _ (List.mem_append_right _ (List.mem_append_left _ (List.mem_of_getElem? (i := 19) rfl)))) rfl, Or.inl ⟨kp (List.mem_map.mpr ⟨(y_ST_cutBlockComesFirst, 10), List.mem_append_left _ (List.mem_of_getElem? (i := 9) rfl), rfl⟩) rfl, Or.inl (kt (List.mem_append_right _ (List.mem_append_right _ (List.mem_append_left _ (List.mem_of_getElem? (i := 17) rfl)))) rfl)⟩⟩
set_option maxRecDepth 100000 in
theorem kl_ST_69 : Cond.methodLink RST 69 arraycopyName ∈ kWS := kt (List.mem_append_right _ (List.mem_append_right _ (List.mem_append_left _ (List.mem_of_getElem? (i := 21) rfl)))) rfl
set_option maxRecDepth 100000 in
theorem kl_ST_79_BC : kLinkV RST 79 RBC y_BC_show := ⟨kt (List.mem_append_right _ (List.mem_append_left _ (List.mem_of_getElem? (i := 167) rfl))) rfl, Or.inl ⟨kt (List.mem_append_right _ (List.mem_append_left _ (List.mem_of_getElem? (i := 168) rfl))) rfl, Or.inl (kt (List.mem_append_right _ (List.mem_append_right _ (List.mem_append_left _ (List.mem_of_getElem? (i := 22) rfl)))) rfl)⟩⟩
set_option maxRecDepth 100000 in
theorem kl_ST_42 : kLinkS RST 42 y_RW_copy := ⟨kt (List.mem_append_right _ (List.mem_append_left _ (List.mem_of_getElem? (i := 62) rfl))) rfl, Or.inl (kt (List.mem_append_right _ (List.mem_append_right _ (List.mem_append_left _ (List.mem_of_getElem? (i := 23) rfl)))) rfl)⟩
set_option maxRecDepth 100000 in
theorem kl_ST_84 : kLinkS RST 84 y_RW_xor := ⟨kt (List.mem_append_right _ (List.mem_append_left _ (List.mem_of_getElem? (i := 177) rfl))) rfl, Or.inl (kt (List.mem_append_right _ (List.mem_append_right _ (List.mem_append_left _ (List.mem_of_getElem? (i := 24) rfl)))) rfl)⟩
set_option maxRecDepth 100000 in
theorem kl_ST_48_ST : kLinkV RST 48 RST y_CH_step := ⟨kt (List.mem_append_right _ (List.mem_append_left _ (List.mem_of_getElem? (i := 160) rfl))) rfl, Or.inr ⟨⟨"CipherModes$StolenMode", "step", "([I)V"⟩, "CipherModes$ChainedMode", kt (List.mem_append_right _ (List.mem_append_right _ (List.mem_append_left _ (List.mem_of_getElem? (i := 25) rfl)))) rfl, kt (List.mem_append_right _ (List.mem_append_right _ (List.mem_append_left _ (List.mem_of_getElem? (i := 26) rfl)))) rfl, kt (List.mem_append_right _ (List.mem_append_right _ (List.mem_append_left _ (List.mem_of_getElem? (i := 28) rfl)))) rfl, rfl, by decide, by decide, Or.inl (ktn (List.mem_append_right _ (List.mem_append_right _ (List.mem_append_left _ (List.mem_of_getElem? (i := 27) rfl)))) rfl)⟩⟩
set_option maxRecDepth 100000 in
theorem kl_ST_63_OU : kLinkV RST 63 ROU y_OU_addFirst := ⟨kt (List.mem_append_right _ (List.mem_append_left _ (List.mem_of_getElem? (i := 190) rfl))) rfl, Or.inl ⟨kt (List.mem_append_right _ (List.mem_append_left _ (List.mem_of_getElem? (i := 191) rfl))) rfl, Or.inl (kt (List.mem_append_right _ (List.mem_append_right _ (List.mem_append_left _ (List.mem_of_getElem? (i := 29) rfl)))) rfl)⟩⟩
set_option maxRecDepth 100000 in
theorem kl_ST_29_ST : kLinkV RST 29 RST y_ST_giveHiddenTail := ⟨kt (List.mem_append_right _ (List.mem_append_right _ (List.mem_append_left _ (List.mem_of_getElem? (i := 32) rfl)))) rfl, Or.inl ⟨kp (List.mem_map.mpr ⟨(y_ST_giveHiddenTail, 10), List.mem_append_left _ (List.mem_of_getElem? (i := 10) rfl), rfl⟩) rfl, Or.inl (kt (List.mem_append_right _ (List.mem_append_right _ (List.mem_append_left _ (List.mem_of_getElem? (i := 30) rfl)))) rfl)⟩⟩
set_option maxRecDepth 100000 in
theorem kl_TW_46_TW : kLinkV RTW 46 RTW y_TW_giveStolenTail := ⟨kt (List.mem_append_right _ (List.mem_append_right _ (List.mem_append_left _ (List.mem_of_getElem? (i := 42) rfl)))) rfl, Or.inl ⟨kp (List.mem_map.mpr ⟨(y_TW_giveStolenTail, 10), List.mem_append_left _ (List.mem_of_getElem? (i := 11) rfl), rfl⟩) rfl, Or.inl (kt (List.mem_append_right _ (List.mem_append_right _ (List.mem_append_left _ (List.mem_of_getElem? (i := 40) rfl)))) rfl)⟩⟩
set_option maxRecDepth 100000 in
theorem kl_TW_54 : kLinkS RTW 54 y_RW_copy := ⟨kt (List.mem_append_right _ (List.mem_append_left _ (List.mem_of_getElem? (i := 62) rfl))) rfl, Or.inl (kt (List.mem_append_right _ (List.mem_append_right _ (List.mem_append_left _ (List.mem_of_getElem? (i := 44) rfl)))) rfl)⟩
set_option maxRecDepth 100000 in
theorem kl_TW_63_TW : kLinkV RTW 63 RTW y_TW_step := ⟨kt (List.mem_append_right _ (List.mem_append_left _ (List.mem_of_getElem? (i := 182) rfl))) rfl, Or.inl ⟨kt (List.mem_append_right _ (List.mem_append_right _ (List.mem_append_right _ (List.mem_of_getElem? (i := 71) rfl)))) rfl, Or.inl (kt (List.mem_append_right _ (List.mem_append_right _ (List.mem_append_left _ (List.mem_of_getElem? (i := 45) rfl)))) rfl)⟩⟩
set_option maxRecDepth 100000 in
theorem kl_TW_69 : Cond.methodLink RTW 69 arraycopyName ∈ kWS := kt (List.mem_append_right _ (List.mem_append_right _ (List.mem_append_left _ (List.mem_of_getElem? (i := 46) rfl)))) rfl
set_option maxRecDepth 100000 in
theorem kl_TW_79_OU : kLinkV RTW 79 ROU y_OU_addFirst := ⟨kt (List.mem_append_right _ (List.mem_append_left _ (List.mem_of_getElem? (i := 190) rfl))) rfl, Or.inl ⟨kt (List.mem_append_right _ (List.mem_append_left _ (List.mem_of_getElem? (i := 191) rfl))) rfl, Or.inl (kt (List.mem_append_right _ (List.mem_append_right _ (List.mem_append_left _ (List.mem_of_getElem? (i := 47) rfl)))) rfl)⟩⟩
set_option maxRecDepth 100000 in
theorem kl_TW_50_TW : kLinkV RTW 50 RTW y_BM_giveFirstBlock := ⟨kt (List.mem_append_right _ (List.mem_append_left _ (List.mem_of_getElem? (i := 148) rfl))) rfl, Or.inr ⟨⟨"CipherModes$TweakedMode", "giveFirstBlock", "()V"⟩, "CipherModes$BlockMode", kt (List.mem_append_right _ (List.mem_append_right _ (List.mem_append_left _ (List.mem_of_getElem? (i := 48) rfl)))) rfl, kt (List.mem_append_right _ (List.mem_append_right _ (List.mem_append_left _ (List.mem_of_getElem? (i := 49) rfl)))) rfl, kt (List.mem_append_right _ (List.mem_append_right _ (List.mem_append_left _ (List.mem_of_getElem? (i := 50) rfl)))) rfl, rfl, by decide, by decide, Or.inl (ktn (List.mem_append_right _ (List.mem_append_right _ (List.mem_append_left _ (List.mem_of_getElem? (i := 4) rfl)))) rfl)⟩⟩
set_option maxRecDepth 100000 in
theorem kl_L_39_X : kLinkV RL 39 RX y_X_given := ⟨kt (List.mem_append_right _ (List.mem_append_right _ (List.mem_append_left _ (List.mem_of_getElem? (i := 52) rfl)))) rfl, Or.inl ⟨kt (List.mem_append_right _ (List.mem_append_right _ (List.mem_append_left _ (List.mem_of_getElem? (i := 53) rfl)))) rfl, Or.inl (kt (List.mem_append_right _ (List.mem_append_right _ (List.mem_append_left _ (List.mem_of_getElem? (i := 51) rfl)))) rfl)⟩⟩
set_option maxRecDepth 100000 in
theorem kl_X_132_OU : kLinkV RX 132 ROU y_OU_at := ⟨kt (List.mem_append_right _ (List.mem_append_right _ (List.mem_append_left _ (List.mem_of_getElem? (i := 56) rfl)))) rfl, Or.inl ⟨kt (List.mem_append_right _ (List.mem_append_right _ (List.mem_append_left _ (List.mem_of_getElem? (i := 57) rfl)))) rfl, Or.inl (kt (List.mem_append_right _ (List.mem_append_right _ (List.mem_append_left _ (List.mem_of_getElem? (i := 55) rfl)))) rfl)⟩⟩
set_option maxRecDepth 100000 in
theorem kl_L_44_X : kLinkV RL 44 RX y_X_block := ⟨kt (List.mem_append_right _ (List.mem_append_right _ (List.mem_append_left _ (List.mem_of_getElem? (i := 60) rfl)))) rfl, Or.inl ⟨kt (List.mem_append_right _ (List.mem_append_right _ (List.mem_append_left _ (List.mem_of_getElem? (i := 61) rfl)))) rfl, Or.inl (kt (List.mem_append_right _ (List.mem_append_right _ (List.mem_append_left _ (List.mem_of_getElem? (i := 59) rfl)))) rfl)⟩⟩
set_option maxRecDepth 100000 in
theorem kl_X_136_BC : kLinkV RX 136 RBC y_BC_turn := ⟨kt (List.mem_append_right _ (List.mem_append_left _ (List.mem_of_getElem? (i := 163) rfl))) rfl, Or.inl ⟨kt (List.mem_append_right _ (List.mem_append_left _ (List.mem_of_getElem? (i := 164) rfl))) rfl, Or.inl (kt (List.mem_append_right _ (List.mem_append_right _ (List.mem_append_left _ (List.mem_of_getElem? (i := 63) rfl)))) rfl)⟩⟩
set_option maxRecDepth 100000 in
theorem kl_X_140 : kLinkS RX 140 y_RW_longAt := ⟨kt (List.mem_append_right _ (List.mem_append_right _ (List.mem_append_left _ (List.mem_of_getElem? (i := 65) rfl)))) rfl, Or.inl (kt (List.mem_append_right _ (List.mem_append_right _ (List.mem_append_left _ (List.mem_of_getElem? (i := 64) rfl)))) rfl)⟩
set_option maxRecDepth 100000 in
theorem kl_RW_9 : kLinkS RRW 9 y_RW_wordAt := ⟨kt (List.mem_append_right _ (List.mem_append_left _ (List.mem_of_getElem? (i := 72) rfl))) rfl, Or.inl (kt (List.mem_append_right _ (List.mem_append_right _ (List.mem_append_left _ (List.mem_of_getElem? (i := 67) rfl)))) rfl)⟩
set_option maxRecDepth 100000 in
theorem kl_L_49_X : kLinkV RL 49 RX y_X_box := ⟨kt (List.mem_append_right _ (List.mem_append_right _ (List.mem_append_left _ (List.mem_of_getElem? (i := 70) rfl)))) rfl, Or.inl ⟨kt (List.mem_append_right _ (List.mem_append_right _ (List.mem_append_left _ (List.mem_of_getElem? (i := 71) rfl)))) rfl, Or.inl (kt (List.mem_append_right _ (List.mem_append_right _ (List.mem_append_left _ (List.mem_of_getElem? (i := 69) rfl)))) rfl)⟩⟩
set_option maxRecDepth 100000 in
theorem kl_X_144 : kLinkS RX 144 y_X_isByte := ⟨kt (List.mem_append_right _ (List.mem_append_right _ (List.mem_append_left _ (List.mem_of_getElem? (i := 74) rfl)))) rfl, Or.inl (kt (List.mem_append_right _ (List.mem_append_right _ (List.mem_append_left _ (List.mem_of_getElem? (i := 73) rfl)))) rfl)⟩
set_option maxRecDepth 100000 in
theorem kl_X_147_BX : kLinkV RX 147 RBX y_BX_withBox := ⟨kt (List.mem_append_right _ (List.mem_append_right _ (List.mem_append_left _ (List.mem_of_getElem? (i := 77) rfl)))) rfl, Or.inl ⟨kt (List.mem_append_right _ (List.mem_append_right _ (List.mem_append_left _ (List.mem_of_getElem? (i := 78) rfl)))) rfl, Or.inl (kt (List.mem_append_right _ (List.mem_append_right _ (List.mem_append_left _ (List.mem_of_getElem? (i := 76) rfl)))) rfl)⟩⟩
set_option maxRecDepth 100000 in
theorem kl_X_150_BX : kLinkV RX 150 RBX y_BX_boxOf := ⟨kt (List.mem_append_right _ (List.mem_append_right _ (List.mem_append_left _ (List.mem_of_getElem? (i := 81) rfl)))) rfl, Or.inl ⟨kt (List.mem_append_right _ (List.mem_append_right _ (List.mem_append_left _ (List.mem_of_getElem? (i := 82) rfl)))) rfl, Or.inl (kt (List.mem_append_right _ (List.mem_append_right _ (List.mem_append_left _ (List.mem_of_getElem? (i := 80) rfl)))) rfl)⟩⟩
set_option maxRecDepth 100000 in
theorem kl_L_54_X : kLinkV RL 54 RX y_X_product := ⟨kt (List.mem_append_right _ (List.mem_append_right _ (List.mem_append_left _ (List.mem_of_getElem? (i := 85) rfl)))) rfl, Or.inl ⟨kt (List.mem_append_right _ (List.mem_append_right _ (List.mem_append_left _ (List.mem_of_getElem? (i := 86) rfl)))) rfl, Or.inl (kt (List.mem_append_right _ (List.mem_append_right _ (List.mem_append_left _ (List.mem_of_getElem? (i := 84) rfl)))) rfl)⟩⟩
set_option maxRecDepth 100000 in
theorem kl_X_153 : kLinkS RX 153 y_BX_times := ⟨kt (List.mem_append_right _ (List.mem_append_right _ (List.mem_append_left _ (List.mem_of_getElem? (i := 89) rfl)))) rfl, Or.inl (kt (List.mem_append_right _ (List.mem_append_right _ (List.mem_append_left _ (List.mem_of_getElem? (i := 88) rfl)))) rfl)⟩
set_option maxRecDepth 100000 in
theorem kl_L_12 : kLinkI RL 12 y_M_init := ⟨kt (List.mem_append_right _ (List.mem_append_right _ (List.mem_append_left _ (List.mem_of_getElem? (i := 94) rfl)))) rfl, rfl, Or.inl (kt (List.mem_append_right _ (List.mem_append_right _ (List.mem_append_left _ (List.mem_of_getElem? (i := 93) rfl)))) rfl)⟩
set_option maxRecDepth 100000 in
theorem kl_M_1 : Cond.methodLink RM 1 Lib.objectInit ∈ kWS := kt (List.mem_append_right _ (List.mem_append_right _ (List.mem_append_left _ (List.mem_of_getElem? (i := 96) rfl)))) rfl
set_option maxRecDepth 100000 in
theorem kl_M_59 : kLinkS RM 59 y_M_inverse := ⟨kt (List.mem_append_right _ (List.mem_append_right _ (List.mem_append_left _ (List.mem_of_getElem? (i := 98) rfl)))) rfl, Or.inl (kt (List.mem_append_right _ (List.mem_append_right _ (List.mem_append_left _ (List.mem_of_getElem? (i := 97) rfl)))) rfl)⟩
set_option maxRecDepth 100000 in
theorem kl_M_63 : kLinkS RM 63 y_M_times := ⟨kt (List.mem_append_right _ (List.mem_append_right _ (List.mem_append_left _ (List.mem_of_getElem? (i := 101) rfl)))) rfl, Or.inl (kt (List.mem_append_right _ (List.mem_append_right _ (List.mem_append_left _ (List.mem_of_getElem? (i := 100) rfl)))) rfl)⟩
set_option maxRecDepth 100000 in
theorem kl_L_53_M : kLinkV RL 53 RM y_M_box := ⟨kt (List.mem_append_right _ (List.mem_append_right _ (List.mem_append_left _ (List.mem_of_getElem? (i := 171) rfl)))) rfl, Or.inl ⟨kt (List.mem_append_right _ (List.mem_append_right _ (List.mem_append_left _ (List.mem_of_getElem? (i := 172) rfl)))) rfl, Or.inl (kt (List.mem_append_right _ (List.mem_append_right _ (List.mem_append_left _ (List.mem_of_getElem? (i := 170) rfl)))) rfl)⟩⟩
set_option maxRecDepth 100000 in
theorem kl_M_67 : kLinkS RM 67 y_M_isByte := ⟨kt (List.mem_append_right _ (List.mem_append_right _ (List.mem_append_left _ (List.mem_of_getElem? (i := 175) rfl)))) rfl, Or.inl (kt (List.mem_append_right _ (List.mem_append_right _ (List.mem_append_left _ (List.mem_of_getElem? (i := 174) rfl)))) rfl)⟩
set_option maxRecDepth 100000 in
theorem kl_L_57_M : kLinkV RL 57 RM y_M_product := ⟨kt (List.mem_append_right _ (List.mem_append_right _ (List.mem_append_left _ (List.mem_of_getElem? (i := 178) rfl)))) rfl, Or.inl ⟨kt (List.mem_append_right _ (List.mem_append_right _ (List.mem_append_left _ (List.mem_of_getElem? (i := 179) rfl)))) rfl, Or.inl (kt (List.mem_append_right _ (List.mem_append_right _ (List.mem_append_left _ (List.mem_of_getElem? (i := 177) rfl)))) rfl)⟩⟩
set_option maxRecDepth 100000 in
theorem kl_L_19_M : kLinkV RL 19 RM y_M_key := ⟨kt (List.mem_append_right _ (List.mem_append_right _ (List.mem_append_left _ (List.mem_of_getElem? (i := 182) rfl)))) rfl, Or.inl ⟨kt (List.mem_append_right _ (List.mem_append_right _ (List.mem_append_left _ (List.mem_of_getElem? (i := 183) rfl)))) rfl, Or.inl (kt (List.mem_append_right _ (List.mem_append_right _ (List.mem_append_left _ (List.mem_of_getElem? (i := 181) rfl)))) rfl)⟩⟩
set_option maxRecDepth 100000 in
theorem kl_M_94 : kLinkS RM 94 y_M_byteOf := ⟨kt (List.mem_append_right _ (List.mem_append_right _ (List.mem_append_left _ (List.mem_of_getElem? (i := 186) rfl)))) rfl, Or.inl (kt (List.mem_append_right _ (List.mem_append_right _ (List.mem_append_left _ (List.mem_of_getElem? (i := 185) rfl)))) rfl)⟩
set_option maxRecDepth 100000 in
theorem kl_L_23_M : kLinkV RL 23 RM y_M_initial := ⟨kt (List.mem_append_right _ (List.mem_append_right _ (List.mem_append_left _ (List.mem_of_getElem? (i := 190) rfl)))) rfl, Or.inl ⟨kt (List.mem_append_right _ (List.mem_append_right _ (List.mem_append_left _ (List.mem_of_getElem? (i := 191) rfl)))) rfl, Or.inl (kt (List.mem_append_right _ (List.mem_append_right _ (List.mem_append_left _ (List.mem_of_getElem? (i := 189) rfl)))) rfl)⟩⟩
set_option maxRecDepth 100000 in
theorem kl_L_28_M : kLinkV RL 28 RM y_M_begin := ⟨kt (List.mem_append_right _ (List.mem_append_right _ (List.mem_append_left _ (List.mem_of_getElem? (i := 194) rfl)))) rfl, Or.inl ⟨kt (List.mem_append_right _ (List.mem_append_right _ (List.mem_append_left _ (List.mem_of_getElem? (i := 195) rfl)))) rfl, Or.inl (kt (List.mem_append_right _ (List.mem_append_right _ (List.mem_append_left _ (List.mem_of_getElem? (i := 193) rfl)))) rfl)⟩⟩
set_option maxRecDepth 100000 in
theorem kl_M_98 : kLinkS RM 98 y_M_isKey := ⟨kt (List.mem_append_right _ (List.mem_append_right _ (List.mem_append_left _ (List.mem_of_getElem? (i := 198) rfl)))) rfl, Or.inl (kt (List.mem_append_right _ (List.mem_append_right _ (List.mem_append_left _ (List.mem_of_getElem? (i := 197) rfl)))) rfl)⟩
set_option maxRecDepth 100000 in
theorem kl_M_117_M : kLinkV RM 117 RM y_M_expand := ⟨kt (List.mem_append_right _ (List.mem_append_right _ (List.mem_append_left _ (List.mem_of_getElem? (i := 202) rfl)))) rfl, Or.inl ⟨kp (List.mem_map.mpr ⟨(y_M_expand, 22), List.mem_append_left _ (List.mem_of_getElem? (i := 12) rfl), rfl⟩) rfl, Or.inl (kt (List.mem_append_right _ (List.mem_append_right _ (List.mem_append_left _ (List.mem_of_getElem? (i := 200) rfl)))) rfl)⟩⟩
set_option maxRecDepth 100000 in
theorem kl_L_33_M : kLinkV RL 33 RM y_M_feed := ⟨kt (List.mem_append_right _ (List.mem_append_right _ (List.mem_append_left _ (List.mem_of_getElem? (i := 205) rfl)))) rfl, Or.inl ⟨kt (List.mem_append_right _ (List.mem_append_right _ (List.mem_append_left _ (List.mem_of_getElem? (i := 206) rfl)))) rfl, Or.inl (kt (List.mem_append_right _ (List.mem_append_right _ (List.mem_append_left _ (List.mem_of_getElem? (i := 204) rfl)))) rfl)⟩⟩
set_option maxRecDepth 100000 in
theorem kl_M_121_M : kLinkV RM 121 RM y_M_due := ⟨kt (List.mem_append_right _ (List.mem_append_right _ (List.mem_append_left _ (List.mem_of_getElem? (i := 210) rfl)))) rfl, Or.inl ⟨kp (List.mem_map.mpr ⟨(y_M_due, 22), List.mem_append_left _ (List.mem_of_getElem? (i := 13) rfl), rfl⟩) rfl, Or.inl (kt (List.mem_append_right _ (List.mem_append_right _ (List.mem_append_left _ (List.mem_of_getElem? (i := 208) rfl)))) rfl)⟩⟩
set_option maxRecDepth 100000 in
theorem kl_M_125_M : kLinkV RM 125 RM y_M_whole := ⟨kt (List.mem_append_right _ (List.mem_append_right _ (List.mem_append_left _ (List.mem_of_getElem? (i := 214) rfl)))) rfl, Or.inl ⟨kp (List.mem_map.mpr ⟨(y_M_whole, 22), List.mem_append_left _ (List.mem_of_getElem? (i := 14) rfl), rfl⟩) rfl, Or.inl (kt (List.mem_append_right _ (List.mem_append_right _ (List.mem_append_left _ (List.mem_of_getElem? (i := 212) rfl)))) rfl)⟩⟩
set_option maxRecDepth 100000 in
theorem kl_M_131_M : kLinkV RM 131 RM y_M_turn := ⟨kt (List.mem_append_right _ (List.mem_append_right _ (List.mem_append_left _ (List.mem_of_getElem? (i := 218) rfl)))) rfl, Or.inl ⟨kp (List.mem_map.mpr ⟨(y_M_turn, 22), List.mem_append_left _ (List.mem_of_getElem? (i := 15) rfl), rfl⟩) rfl, Or.inl (kt (List.mem_append_right _ (List.mem_append_right _ (List.mem_append_left _ (List.mem_of_getElem? (i := 216) rfl)))) rfl)⟩⟩
set_option maxRecDepth 100000 in
theorem kl_M_86_M : kLinkV RM 86 RM y_M_show := ⟨kt (List.mem_append_right _ (List.mem_append_right _ (List.mem_append_left _ (List.mem_of_getElem? (i := 222) rfl)))) rfl, Or.inl ⟨kp (List.mem_map.mpr ⟨(y_M_show, 22), List.mem_append_right _ (List.mem_append_left _ (List.mem_of_getElem? (i := 0) rfl)), rfl⟩) rfl, Or.inl (kt (List.mem_append_right _ (List.mem_append_right _ (List.mem_append_left _ (List.mem_of_getElem? (i := 220) rfl)))) rfl)⟩⟩
set_option maxRecDepth 100000 in
theorem kl_M_71_M : kLinkV RM 71 RM y_M_addKey := ⟨kt (List.mem_append_right _ (List.mem_append_right _ (List.mem_append_left _ (List.mem_of_getElem? (i := 226) rfl)))) rfl, Or.inl ⟨kp (List.mem_map.mpr ⟨(y_M_addKey, 22), List.mem_append_right _ (List.mem_append_left _ (List.mem_of_getElem? (i := 1) rfl)), rfl⟩) rfl, Or.inl (kt (List.mem_append_right _ (List.mem_append_right _ (List.mem_append_left _ (List.mem_of_getElem? (i := 224) rfl)))) rfl)⟩⟩
set_option maxRecDepth 100000 in
theorem kl_M_79_M : kLinkV RM 79 RM y_M_mix := ⟨kt (List.mem_append_right _ (List.mem_append_right _ (List.mem_append_left _ (List.mem_of_getElem? (i := 230) rfl)))) rfl, Or.inl ⟨kp (List.mem_map.mpr ⟨(y_M_mix, 22), List.mem_append_right _ (List.mem_append_left _ (List.mem_of_getElem? (i := 2) rfl)), rfl⟩) rfl, Or.inl (kt (List.mem_append_right _ (List.mem_append_right _ (List.mem_append_left _ (List.mem_of_getElem? (i := 228) rfl)))) rfl)⟩⟩
set_option maxRecDepth 100000 in
theorem kl_M_75_M : kLinkV RM 75 RM y_M_turnRows := ⟨kt (List.mem_append_right _ (List.mem_append_right _ (List.mem_append_left _ (List.mem_of_getElem? (i := 234) rfl)))) rfl, Or.inl ⟨kp (List.mem_map.mpr ⟨(y_M_turnRows, 22), List.mem_append_right _ (List.mem_append_left _ (List.mem_of_getElem? (i := 3) rfl)), rfl⟩) rfl, Or.inl (kt (List.mem_append_right _ (List.mem_append_right _ (List.mem_append_left _ (List.mem_of_getElem? (i := 232) rfl)))) rfl)⟩⟩
set_option maxRecDepth 100000 in
theorem kl_M_89_M : kLinkV RM 89 RM y_M_hide := ⟨kt (List.mem_append_right _ (List.mem_append_right _ (List.mem_append_left _ (List.mem_of_getElem? (i := 238) rfl)))) rfl, Or.inl ⟨kp (List.mem_map.mpr ⟨(y_M_hide, 22), List.mem_append_right _ (List.mem_append_left _ (List.mem_of_getElem? (i := 4) rfl)), rfl⟩) rfl, Or.inl (kt (List.mem_append_right _ (List.mem_append_right _ (List.mem_append_left _ (List.mem_of_getElem? (i := 236) rfl)))) rfl)⟩⟩
set_option maxRecDepth 100000 in
theorem kl_M_135_M : kLinkV RM 135 RM y_M_tweaked := ⟨kt (List.mem_append_right _ (List.mem_append_right _ (List.mem_append_right _ (List.mem_of_getElem? (i := 2) rfl)))) rfl, Or.inl ⟨kp (List.mem_map.mpr ⟨(y_M_tweaked, 22), List.mem_append_right _ (List.mem_append_left _ (List.mem_of_getElem? (i := 5) rfl)), rfl⟩) rfl, Or.inl (kt (List.mem_append_right _ (List.mem_append_right _ (List.mem_append_right _ (List.mem_of_getElem? (i := 0) rfl)))) rfl)⟩⟩
set_option maxRecDepth 100000 in
theorem kl_M_141_M : kLinkV RM 141 RM y_M_multiples := ⟨kt (List.mem_append_right _ (List.mem_append_right _ (List.mem_append_right _ (List.mem_of_getElem? (i := 6) rfl)))) rfl, Or.inl ⟨kp (List.mem_map.mpr ⟨(y_M_multiples, 22), List.mem_append_right _ (List.mem_append_left _ (List.mem_of_getElem? (i := 6) rfl)), rfl⟩) rfl, Or.inl (kt (List.mem_append_right _ (List.mem_append_right _ (List.mem_append_right _ (List.mem_of_getElem? (i := 4) rfl)))) rfl)⟩⟩
set_option maxRecDepth 100000 in
theorem kl_M_138_M : kLinkV RM 138 RM y_M_before := ⟨kt (List.mem_append_right _ (List.mem_append_right _ (List.mem_append_right _ (List.mem_of_getElem? (i := 10) rfl)))) rfl, Or.inl ⟨kp (List.mem_map.mpr ⟨(y_M_before, 22), List.mem_append_right _ (List.mem_append_left _ (List.mem_of_getElem? (i := 7) rfl)), rfl⟩) rfl, Or.inl (kt (List.mem_append_right _ (List.mem_append_right _ (List.mem_append_right _ (List.mem_of_getElem? (i := 8) rfl)))) rfl)⟩⟩
set_option maxRecDepth 100000 in
theorem kl_M_128_M : kLinkV RM 128 RM y_M_single := ⟨kt (List.mem_append_right _ (List.mem_append_right _ (List.mem_append_right _ (List.mem_of_getElem? (i := 14) rfl)))) rfl, Or.inl ⟨kp (List.mem_map.mpr ⟨(y_M_single, 22), List.mem_append_right _ (List.mem_append_left _ (List.mem_of_getElem? (i := 8) rfl)), rfl⟩) rfl, Or.inl (kt (List.mem_append_right _ (List.mem_append_right _ (List.mem_append_right _ (List.mem_of_getElem? (i := 12) rfl)))) rfl)⟩⟩
set_option maxRecDepth 100000 in
theorem kl_M_144_M : kLinkV RM 144 RM y_M_hiddenByte := ⟨kt (List.mem_append_right _ (List.mem_append_right _ (List.mem_append_right _ (List.mem_of_getElem? (i := 18) rfl)))) rfl, Or.inl ⟨kp (List.mem_map.mpr ⟨(y_M_hiddenByte, 22), List.mem_append_right _ (List.mem_append_left _ (List.mem_of_getElem? (i := 9) rfl)), rfl⟩) rfl, Or.inl (kt (List.mem_append_right _ (List.mem_append_right _ (List.mem_append_right _ (List.mem_of_getElem? (i := 16) rfl)))) rfl)⟩⟩
set_option maxRecDepth 100000 in
theorem kl_M_147_M : kLinkV RM 147 RM y_M_help := ⟨kt (List.mem_append_right _ (List.mem_append_right _ (List.mem_append_right _ (List.mem_of_getElem? (i := 22) rfl)))) rfl, Or.inl ⟨kp (List.mem_map.mpr ⟨(y_M_help, 22), List.mem_append_right _ (List.mem_append_left _ (List.mem_of_getElem? (i := 10) rfl)), rfl⟩) rfl, Or.inl (kt (List.mem_append_right _ (List.mem_append_right _ (List.mem_append_right _ (List.mem_of_getElem? (i := 20) rfl)))) rfl)⟩⟩
set_option maxRecDepth 100000 in
theorem kl_L_38_M : kLinkV RL 38 RM y_M_end := ⟨kt (List.mem_append_right _ (List.mem_append_right _ (List.mem_append_right _ (List.mem_of_getElem? (i := 25) rfl)))) rfl, Or.inl ⟨kt (List.mem_append_right _ (List.mem_append_right _ (List.mem_append_right _ (List.mem_of_getElem? (i := 26) rfl)))) rfl, Or.inl (kt (List.mem_append_right _ (List.mem_append_right _ (List.mem_append_right _ (List.mem_of_getElem? (i := 24) rfl)))) rfl)⟩⟩
set_option maxRecDepth 100000 in
theorem kl_M_150_M : kLinkV RM 150 RM y_M_endShown := ⟨kt (List.mem_append_right _ (List.mem_append_right _ (List.mem_append_right _ (List.mem_of_getElem? (i := 30) rfl)))) rfl, Or.inl ⟨kp (List.mem_map.mpr ⟨(y_M_endShown, 22), List.mem_append_right _ (List.mem_append_left _ (List.mem_of_getElem? (i := 11) rfl)), rfl⟩) rfl, Or.inl (kt (List.mem_append_right _ (List.mem_append_right _ (List.mem_append_right _ (List.mem_of_getElem? (i := 28) rfl)))) rfl)⟩⟩
set_option maxRecDepth 100000 in
theorem kl_M_153_M : kLinkV RM 153 RM y_M_endPadded := ⟨kt (List.mem_append_right _ (List.mem_append_right _ (List.mem_append_right _ (List.mem_of_getElem? (i := 34) rfl)))) rfl, Or.inl ⟨kp (List.mem_map.mpr ⟨(y_M_endPadded, 22), List.mem_append_right _ (List.mem_append_left _ (List.mem_of_getElem? (i := 12) rfl)), rfl⟩) rfl, Or.inl (kt (List.mem_append_right _ (List.mem_append_right _ (List.mem_append_right _ (List.mem_of_getElem? (i := 32) rfl)))) rfl)⟩⟩
set_option maxRecDepth 100000 in
theorem kl_M_156_M : kLinkV RM 156 RM y_M_endStolen := ⟨kt (List.mem_append_right _ (List.mem_append_right _ (List.mem_append_right _ (List.mem_of_getElem? (i := 38) rfl)))) rfl, Or.inl ⟨kp (List.mem_map.mpr ⟨(y_M_endStolen, 22), List.mem_append_right _ (List.mem_append_left _ (List.mem_of_getElem? (i := 13) rfl)), rfl⟩) rfl, Or.inl (kt (List.mem_append_right _ (List.mem_append_right _ (List.mem_append_right _ (List.mem_of_getElem? (i := 36) rfl)))) rfl)⟩⟩
set_option maxRecDepth 100000 in
theorem kl_M_159_M : kLinkV RM 159 RM y_M_endTweaked := ⟨kt (List.mem_append_right _ (List.mem_append_right _ (List.mem_append_right _ (List.mem_of_getElem? (i := 42) rfl)))) rfl, Or.inl ⟨kp (List.mem_map.mpr ⟨(y_M_endTweaked, 22), List.mem_append_right _ (List.mem_append_left _ (List.mem_of_getElem? (i := 14) rfl)), rfl⟩) rfl, Or.inl (kt (List.mem_append_right _ (List.mem_append_right _ (List.mem_append_right _ (List.mem_of_getElem? (i := 40) rfl)))) rfl)⟩⟩
set_option maxRecDepth 100000 in
theorem kl_M_163_M : kLinkV RM 163 RM y_M_showStolen := ⟨kt (List.mem_append_right _ (List.mem_append_right _ (List.mem_append_right _ (List.mem_of_getElem? (i := 46) rfl)))) rfl, Or.inl ⟨kp (List.mem_map.mpr ⟨(y_M_showStolen, 22), List.mem_append_right _ (List.mem_append_left _ (List.mem_of_getElem? (i := 15) rfl)), rfl⟩) rfl, Or.inl (kt (List.mem_append_right _ (List.mem_append_right _ (List.mem_append_right _ (List.mem_of_getElem? (i := 44) rfl)))) rfl)⟩⟩
set_option maxRecDepth 100000 in
theorem kl_M_169_M : kLinkV RM 169 RM y_M_isShortFirst := ⟨kt (List.mem_append_right _ (List.mem_append_right _ (List.mem_append_right _ (List.mem_of_getElem? (i := 50) rfl)))) rfl, Or.inl ⟨kp (List.mem_map.mpr ⟨(y_M_isShortFirst, 22), List.mem_append_right _ (List.mem_append_right _ (List.mem_of_getElem? (i := 0) rfl)), rfl⟩) rfl, Or.inl (kt (List.mem_append_right _ (List.mem_append_right _ (List.mem_append_right _ (List.mem_of_getElem? (i := 48) rfl)))) rfl)⟩⟩
set_option maxRecDepth 100000 in
theorem kl_M_166_M : kLinkV RM 166 RM y_M_hideStolen := ⟨kt (List.mem_append_right _ (List.mem_append_right _ (List.mem_append_right _ (List.mem_of_getElem? (i := 54) rfl)))) rfl, Or.inl ⟨kp (List.mem_map.mpr ⟨(y_M_hideStolen, 22), List.mem_append_right _ (List.mem_append_right _ (List.mem_of_getElem? (i := 1) rfl)), rfl⟩) rfl, Or.inl (kt (List.mem_append_right _ (List.mem_append_right _ (List.mem_append_right _ (List.mem_of_getElem? (i := 52) rfl)))) rfl)⟩⟩
set_option maxRecDepth 100000 in
theorem kl_L_43_M : kLinkV RL 43 RM y_M_given := ⟨kt (List.mem_append_right _ (List.mem_append_right _ (List.mem_append_right _ (List.mem_of_getElem? (i := 57) rfl)))) rfl, Or.inl ⟨kt (List.mem_append_right _ (List.mem_append_right _ (List.mem_append_right _ (List.mem_of_getElem? (i := 58) rfl)))) rfl, Or.inl (kt (List.mem_append_right _ (List.mem_append_right _ (List.mem_append_right _ (List.mem_of_getElem? (i := 56) rfl)))) rfl)⟩⟩
set_option maxRecDepth 100000 in
theorem kl_L_48_M : kLinkV RL 48 RM y_M_block := ⟨kt (List.mem_append_right _ (List.mem_append_right _ (List.mem_append_right _ (List.mem_of_getElem? (i := 61) rfl)))) rfl, Or.inl ⟨kt (List.mem_append_right _ (List.mem_append_right _ (List.mem_append_right _ (List.mem_of_getElem? (i := 62) rfl)))) rfl, Or.inl (kt (List.mem_append_right _ (List.mem_append_right _ (List.mem_append_right _ (List.mem_of_getElem? (i := 60) rfl)))) rfl)⟩⟩
set_option maxRecDepth 100000 in
theorem kq_X_init : kCode y_X_init c_X_init 1 none := ⟨kt (List.mem_append_left _ (List.mem_of_getElem? (i := 18) rfl)) rfl, kt (List.mem_append_left _ (List.mem_of_getElem? (i := 1) rfl)) rfl, by decide, by decide⟩
theorem ka_X_init : kArgs y_X_init 0 := by unfold kArgs; decide +kernel
set_option maxRecDepth 100000 in
theorem kq_obj : Cond.code Lib.objectInit ⟨#[0xb1]⟩ 1 none ∈ kWS := kt (List.mem_append_left _ (List.mem_of_getElem? (i := 21) rfl)) rfl
set_option maxRecDepth 100000 in
theorem kn_obj : Cond.instanceMethod Lib.objectInit ∈ kWS := kt (List.mem_append_left _ (List.mem_of_getElem? (i := 20) rfl)) rfl
set_option maxRecDepth 100000 in
theorem kq_BX_init : kCode y_BX_init c_BX_init 4 none := ⟨kt (List.mem_append_left _ (List.mem_of_getElem? (i := 26) rfl)) rfl, kt (List.mem_append_left _ (List.mem_of_getElem? (i := 2) rfl)) rfl, by decide, by decide⟩
theorem ka_BX_init : kArgs y_BX_init 0 := by unfold kArgs; decide +kernel
set_option maxRecDepth 100000 in
theorem kq_BX_twice : kCode y_BX_twice c_BX_twice 1 (some .int) := ⟨kt (List.mem_append_left _ (List.mem_of_getElem? (i := 30) rfl)) rfl, kt (List.mem_append_left _ (List.mem_of_getElem? (i := 2) rfl)) rfl, by decide, by decide⟩
theorem ka_BX_twice : kArgs y_BX_twice 1 := by unfold kArgs; decide +kernel
set_option maxRecDepth 100000 in
theorem kq_BX_boxOfInverse : kCode y_BX_boxOfInverse c_BX_boxOfInverse 2 (some .int) := ⟨kt (List.mem_append_left _ (List.mem_of_getElem? (i := 33) rfl)) rfl, kt (List.mem_append_left _ (List.mem_of_getElem? (i := 2) rfl)) rfl, by decide, by decide⟩
theorem ka_BX_boxOfInverse : kArgs y_BX_boxOfInverse 1 := by unfold kArgs; decide +kernel
set_option maxRecDepth 100000 in
theorem kq_BX_pair : kCode y_BX_pair c_BX_pair 3 none := ⟨kt (List.mem_append_left _ (List.mem_of_getElem? (i := 37) rfl)) rfl, kt (List.mem_append_left _ (List.mem_of_getElem? (i := 2) rfl)) rfl, by decide, by decide⟩
theorem ka_BX_pair : kArgs y_BX_pair 2 := by unfold kArgs; decide +kernel
set_option maxRecDepth 100000 in
theorem kq_BC_init : kCode y_BC_init c_BC_init 2 none := ⟨kt (List.mem_append_left _ (List.mem_of_getElem? (i := 52) rfl)) rfl, kt (List.mem_append_left _ (List.mem_of_getElem? (i := 3) rfl)) rfl, by decide, by decide⟩
theorem ka_BC_init : kArgs y_BC_init 1 := by unfold kArgs; decide +kernel
set_option maxRecDepth 100000 in
theorem kq_OU_init : kCode y_OU_init c_OU_init 1 none := ⟨kt (List.mem_append_left _ (List.mem_of_getElem? (i := 71) rfl)) rfl, kt (List.mem_append_left _ (List.mem_of_getElem? (i := 4) rfl)) rfl, by decide, by decide⟩
theorem ka_OU_init : kArgs y_OU_init 0 := by unfold kArgs; decide +kernel
set_option maxRecDepth 100000 in
theorem kq_CH_init : kCode y_CH_init c_CH_init 3 none := ⟨kt (List.mem_append_left _ (List.mem_of_getElem? (i := 84) rfl)) rfl, kt (List.mem_append_left _ (List.mem_of_getElem? (i := 7) rfl)) rfl, by decide, by decide⟩
theorem ka_CH_init : kArgs y_CH_init 2 := by unfold kArgs; decide +kernel
set_option maxRecDepth 100000 in
theorem kq_BM_init : kCode y_BM_init c_BM_init 3 none := ⟨kt (List.mem_append_left _ (List.mem_of_getElem? (i := 87) rfl)) rfl, kt (List.mem_append_left _ (List.mem_of_getElem? (i := 6) rfl)) rfl, by decide, by decide⟩
theorem ka_BM_init : kArgs y_BM_init 2 := by unfold kArgs; decide +kernel
set_option maxRecDepth 100000 in
theorem kq_MO_init : kCode y_MO_init c_MO_init 3 none := ⟨kt (List.mem_append_left _ (List.mem_of_getElem? (i := 90) rfl)) rfl, kt (List.mem_append_left _ (List.mem_of_getElem? (i := 5) rfl)) rfl, by decide, by decide⟩
theorem ka_MO_init : kArgs y_MO_init 2 := by unfold kArgs; decide +kernel
set_option maxRecDepth 100000 in
theorem kq_ST_init : kCode y_ST_init c_ST_init 3 none := ⟨kt (List.mem_append_left _ (List.mem_of_getElem? (i := 187) rfl)) rfl, kt (List.mem_append_left _ (List.mem_of_getElem? (i := 8) rfl)) rfl, by decide, by decide⟩
theorem ka_ST_init : kArgs y_ST_init 2 := by unfold kArgs; decide +kernel
set_option maxRecDepth 100000 in
theorem kq_SM_init : kCode y_SM_init c_SM_init 3 none := ⟨kt (List.mem_append_left _ (List.mem_of_getElem? (i := 204) rfl)) rfl, kt (List.mem_append_left _ (List.mem_of_getElem? (i := 9) rfl)) rfl, by decide, by decide⟩
theorem ka_SM_init : kArgs y_SM_init 2 := by unfold kArgs; decide +kernel
set_option maxRecDepth 100000 in
theorem kq_TW_init : kCode y_TW_init c_TW_init 3 none := ⟨kt (List.mem_append_left _ (List.mem_of_getElem? (i := 222) rfl)) rfl, kt (List.mem_append_left _ (List.mem_of_getElem? (i := 10) rfl)) rfl, by decide, by decide⟩
theorem ka_TW_init : kArgs y_TW_init 2 := by unfold kArgs; decide +kernel
set_option maxRecDepth 100000 in
theorem kq_X_key : kCode y_X_key c_X_key 4 (some .boolean) := ⟨kt (List.mem_append_right _ (List.mem_append_left _ (List.mem_of_getElem? (i := 43) rfl))) rfl, kt (List.mem_append_left _ (List.mem_of_getElem? (i := 1) rfl)) rfl, by decide, by decide⟩
theorem ka_X_key : kArgs y_X_key 2 := by unfold kArgs; decide +kernel
set_option maxRecDepth 100000 in
theorem kq_RW_putLong : kCode y_RW_putLong c_RW_putLong 5 none := ⟨kt (List.mem_append_right _ (List.mem_append_left _ (List.mem_of_getElem? (i := 46) rfl))) rfl, kt (List.mem_append_left _ (List.mem_of_getElem? (i := 12) rfl)) rfl, by decide, by decide⟩
theorem ka_RW_putLong : kArgs y_RW_putLong 3 := by unfold kArgs; decide +kernel
set_option maxRecDepth 100000 in
theorem kq_X_initial : kCode y_X_initial c_X_initial 4 (some .boolean) := ⟨kt (List.mem_append_right _ (List.mem_append_left _ (List.mem_of_getElem? (i := 50) rfl))) rfl, kt (List.mem_append_left _ (List.mem_of_getElem? (i := 1) rfl)) rfl, by decide, by decide⟩
theorem ka_X_initial : kArgs y_X_initial 2 := by unfold kArgs; decide +kernel
set_option maxRecDepth 100000 in
theorem kq_X_begin : kCode y_X_begin c_X_begin 4 (some .int) := ⟨kt (List.mem_append_right _ (List.mem_append_left _ (List.mem_of_getElem? (i := 54) rfl))) rfl, kt (List.mem_append_left _ (List.mem_of_getElem? (i := 1) rfl)) rfl, by decide, by decide⟩
theorem ka_X_begin : kArgs y_X_begin 3 := by unfold kArgs; decide +kernel
set_option maxRecDepth 100000 in
theorem kq_X_isKeySize : kCode y_X_isKeySize c_X_isKeySize 1 (some .boolean) := ⟨kt (List.mem_append_right _ (List.mem_append_left _ (List.mem_of_getElem? (i := 57) rfl))) rfl, kt (List.mem_append_left _ (List.mem_of_getElem? (i := 1) rfl)) rfl, by decide, by decide⟩
theorem ka_X_isKeySize : kArgs y_X_isKeySize 1 := by unfold kArgs; decide +kernel
set_option maxRecDepth 100000 in
theorem kq_X_isDirection : kCode y_X_isDirection c_X_isDirection 1 (some .boolean) := ⟨kt (List.mem_append_right _ (List.mem_append_left _ (List.mem_of_getElem? (i := 60) rfl))) rfl, kt (List.mem_append_left _ (List.mem_of_getElem? (i := 1) rfl)) rfl, by decide, by decide⟩
theorem ka_X_isDirection : kArgs y_X_isDirection 1 := by unfold kArgs; decide +kernel
set_option maxRecDepth 100000 in
theorem kq_RW_copy : kCode y_RW_copy c_RW_copy 2 none := ⟨kt (List.mem_append_right _ (List.mem_append_left _ (List.mem_of_getElem? (i := 63) rfl))) rfl, kt (List.mem_append_left _ (List.mem_of_getElem? (i := 12) rfl)) rfl, by decide, by decide⟩
theorem ka_RW_copy : kArgs y_RW_copy 2 := by unfold kArgs; decide +kernel
set_option maxRecDepth 100000 in
theorem kq_BC_takeKey : kCode y_BC_takeKey c_BC_takeKey 8 none := ⟨kt (List.mem_append_right _ (List.mem_append_left _ (List.mem_of_getElem? (i := 70) rfl))) rfl, kt (List.mem_append_left _ (List.mem_of_getElem? (i := 3) rfl)) rfl, by decide, by decide⟩
theorem ka_BC_takeKey : kArgs y_BC_takeKey 3 := by unfold kArgs; decide +kernel
set_option maxRecDepth 100000 in
theorem kq_RW_wordAt : kCode y_RW_wordAt c_RW_wordAt 2 (some .int) := ⟨kt (List.mem_append_right _ (List.mem_append_left _ (List.mem_of_getElem? (i := 73) rfl))) rfl, kt (List.mem_append_left _ (List.mem_of_getElem? (i := 12) rfl)) rfl, by decide, by decide⟩
theorem ka_RW_wordAt : kArgs y_RW_wordAt 2 := by unfold kArgs; decide +kernel
set_option maxRecDepth 100000 in
theorem kq_BC_boxed : kCode y_BC_boxed c_BC_boxed 2 (some .int) := ⟨kt (List.mem_append_right _ (List.mem_append_left _ (List.mem_of_getElem? (i := 77) rfl))) rfl, kt (List.mem_append_left _ (List.mem_of_getElem? (i := 3) rfl)) rfl, by decide, by decide⟩
theorem ka_BC_boxed : kArgs y_BC_boxed 1 := by unfold kArgs; decide +kernel
set_option maxRecDepth 100000 in
theorem kq_BC_picked : kCode y_BC_picked c_BC_picked 5 (some .int) := ⟨kt (List.mem_append_right _ (List.mem_append_left _ (List.mem_of_getElem? (i := 80) rfl))) rfl, kt (List.mem_append_left _ (List.mem_of_getElem? (i := 3) rfl)) rfl, by decide, by decide⟩
theorem ka_BC_picked : kArgs y_BC_picked 5 := by unfold kArgs; decide +kernel
set_option maxRecDepth 100000 in
theorem kq_BC_hide : kCode y_BC_hide c_BC_hide 10 none := ⟨kt (List.mem_append_right _ (List.mem_append_left _ (List.mem_of_getElem? (i := 85) rfl))) rfl, kt (List.mem_append_left _ (List.mem_of_getElem? (i := 3) rfl)) rfl, by decide, by decide⟩
theorem ka_BC_hide : kArgs y_BC_hide 1 := by unfold kArgs; decide +kernel
set_option maxRecDepth 100000 in
theorem kq_BC_mixed : kCode y_BC_mixed c_BC_mixed 3 (some .int) := ⟨kt (List.mem_append_right _ (List.mem_append_left _ (List.mem_of_getElem? (i := 88) rfl))) rfl, kt (List.mem_append_left _ (List.mem_of_getElem? (i := 3) rfl)) rfl, by decide, by decide⟩
theorem ka_BC_mixed : kArgs y_BC_mixed 1 := by unfold kArgs; decide +kernel
set_option maxRecDepth 100000 in
theorem kq_BC_twiceEachByte : kCode y_BC_twiceEachByte c_BC_twiceEachByte 1 (some .int) := ⟨kt (List.mem_append_right _ (List.mem_append_left _ (List.mem_of_getElem? (i := 91) rfl))) rfl, kt (List.mem_append_left _ (List.mem_of_getElem? (i := 3) rfl)) rfl, by decide, by decide⟩
theorem ka_BC_twiceEachByte : kArgs y_BC_twiceEachByte 1 := by unfold kArgs; decide +kernel
set_option maxRecDepth 100000 in
theorem kq_RW_putWord : kCode y_RW_putWord c_RW_putWord 3 none := ⟨kt (List.mem_append_right _ (List.mem_append_left _ (List.mem_of_getElem? (i := 96) rfl))) rfl, kt (List.mem_append_left _ (List.mem_of_getElem? (i := 12) rfl)) rfl, by decide, by decide⟩
theorem ka_RW_putWord : kArgs y_RW_putWord 3 := by unfold kArgs; decide +kernel
set_option maxRecDepth 100000 in
theorem kq_OU_clear : kCode y_OU_clear c_OU_clear 1 none := ⟨kt (List.mem_append_right _ (List.mem_append_left _ (List.mem_of_getElem? (i := 100) rfl))) rfl, kt (List.mem_append_left _ (List.mem_of_getElem? (i := 4) rfl)) rfl, by decide, by decide⟩
theorem ka_OU_clear : kArgs y_OU_clear 0 := by unfold kArgs; decide +kernel
set_option maxRecDepth 100000 in
theorem kq_X_modeOf : kCode y_X_modeOf c_X_modeOf 2 (some (.object "CipherModes$Mode")) := ⟨kt (List.mem_append_right _ (List.mem_append_left _ (List.mem_of_getElem? (i := 104) rfl))) rfl, kt (List.mem_append_left _ (List.mem_of_getElem? (i := 1) rfl)) rfl, by decide, by decide⟩
theorem ka_X_modeOf : kArgs y_X_modeOf 1 := by unfold kArgs; decide +kernel
set_option maxRecDepth 100000 in
theorem kq_MO_start : kCode y_MO_start c_MO_start 4 none := ⟨kt (List.mem_append_right _ (List.mem_append_left _ (List.mem_of_getElem? (i := 112) rfl))) rfl, kt (List.mem_append_left _ (List.mem_of_getElem? (i := 5) rfl)) rfl, by decide, by decide⟩
theorem ka_MO_start : kArgs y_MO_start 3 := by unfold kArgs; decide +kernel
set_option maxRecDepth 100000 in
theorem kq_BM_forgetRest : kCode y_BM_forgetRest c_BM_forgetRest 1 none := ⟨kt (List.mem_append_right _ (List.mem_append_left _ (List.mem_of_getElem? (i := 119) rfl))) rfl, kt (List.mem_append_left _ (List.mem_of_getElem? (i := 6) rfl)) rfl, by decide, by decide⟩
theorem ka_BM_forgetRest : kArgs y_BM_forgetRest 0 := by unfold kArgs; decide +kernel
set_option maxRecDepth 100000 in
theorem kq_SM_forgetRest : kCode y_SM_forgetRest c_SM_forgetRest 1 none := ⟨kt (List.mem_append_right _ (List.mem_append_left _ (List.mem_of_getElem? (i := 123) rfl))) rfl, kt (List.mem_append_left _ (List.mem_of_getElem? (i := 9) rfl)) rfl, by decide, by decide⟩
theorem ka_SM_forgetRest : kArgs y_SM_forgetRest 0 := by unfold kArgs; decide +kernel
set_option maxRecDepth 100000 in
theorem kq_X_feed : kCode y_X_feed c_X_feed 5 (some .int) := ⟨kt (List.mem_append_right _ (List.mem_append_left _ (List.mem_of_getElem? (i := 128) rfl))) rfl, kt (List.mem_append_left _ (List.mem_of_getElem? (i := 1) rfl)) rfl, by decide, by decide⟩
theorem ka_X_feed : kArgs y_X_feed 2 := by unfold kArgs; decide +kernel
set_option maxRecDepth 100000 in
theorem kq_BM_take : kCode y_BM_take c_BM_take 2 none := ⟨kt (List.mem_append_right _ (List.mem_append_left _ (List.mem_of_getElem? (i := 134) rfl))) rfl, kt (List.mem_append_left _ (List.mem_of_getElem? (i := 6) rfl)) rfl, by decide, by decide⟩
theorem ka_BM_take : kArgs y_BM_take 1 := by unfold kArgs; decide +kernel
set_option maxRecDepth 100000 in
theorem kq_CH_neededBehind : kCode y_CH_neededBehind c_CH_neededBehind 1 (some .int) := ⟨kt (List.mem_append_right _ (List.mem_append_left _ (List.mem_of_getElem? (i := 140) rfl))) rfl, kt (List.mem_append_left _ (List.mem_of_getElem? (i := 7) rfl)) rfl, by decide, by decide⟩
theorem ka_CH_neededBehind : kArgs y_CH_neededBehind 0 := by unfold kArgs; decide +kernel
set_option maxRecDepth 100000 in
theorem kq_ST_neededBehind : kCode y_ST_neededBehind c_ST_neededBehind 1 (some .int) := ⟨kt (List.mem_append_right _ (List.mem_append_left _ (List.mem_of_getElem? (i := 143) rfl))) rfl, kt (List.mem_append_left _ (List.mem_of_getElem? (i := 8) rfl)) rfl, by decide, by decide⟩
theorem ka_ST_neededBehind : kArgs y_ST_neededBehind 0 := by unfold kArgs; decide +kernel
set_option maxRecDepth 100000 in
theorem kq_TW_neededBehind : kCode y_TW_neededBehind c_TW_neededBehind 1 (some .int) := ⟨kt (List.mem_append_right _ (List.mem_append_left _ (List.mem_of_getElem? (i := 146) rfl))) rfl, kt (List.mem_append_left _ (List.mem_of_getElem? (i := 10) rfl)) rfl, by decide, by decide⟩
theorem ka_TW_neededBehind : kArgs y_TW_neededBehind 0 := by unfold kArgs; decide +kernel
set_option maxRecDepth 100000 in
theorem kq_BM_giveFirstBlock : kCode y_BM_giveFirstBlock c_BM_giveFirstBlock 1 none := ⟨kt (List.mem_append_right _ (List.mem_append_left _ (List.mem_of_getElem? (i := 153) rfl))) rfl, kt (List.mem_append_left _ (List.mem_of_getElem? (i := 6) rfl)) rfl, by decide, by decide⟩
theorem ka_BM_giveFirstBlock : kArgs y_BM_giveFirstBlock 0 := by unfold kArgs; decide +kernel
set_option maxRecDepth 100000 in
theorem kq_CH_step : kCode y_CH_step c_CH_step 2 none := ⟨kt (List.mem_append_right _ (List.mem_append_left _ (List.mem_of_getElem? (i := 161) rfl))) rfl, kt (List.mem_append_left _ (List.mem_of_getElem? (i := 7) rfl)) rfl, by decide, by decide⟩
theorem ka_CH_step : kArgs y_CH_step 1 := by unfold kArgs; decide +kernel
set_option maxRecDepth 100000 in
theorem kq_BC_turn : kCode y_BC_turn c_BC_turn 3 none := ⟨kt (List.mem_append_right _ (List.mem_append_left _ (List.mem_of_getElem? (i := 165) rfl))) rfl, kt (List.mem_append_left _ (List.mem_of_getElem? (i := 3) rfl)) rfl, by decide, by decide⟩
theorem ka_BC_turn : kArgs y_BC_turn 2 := by unfold kArgs; decide +kernel
set_option maxRecDepth 100000 in
theorem kq_BC_show : kCode y_BC_show c_BC_show 11 none := ⟨kt (List.mem_append_right _ (List.mem_append_left _ (List.mem_of_getElem? (i := 169) rfl))) rfl, kt (List.mem_append_left _ (List.mem_of_getElem? (i := 3) rfl)) rfl, by decide, by decide⟩
theorem ka_BC_show : kArgs y_BC_show 1 := by unfold kArgs; decide +kernel
set_option maxRecDepth 100000 in
theorem kq_BC_mixedTwice : kCode y_BC_mixedTwice c_BC_mixedTwice 2 (some .int) := ⟨kt (List.mem_append_right _ (List.mem_append_left _ (List.mem_of_getElem? (i := 172) rfl))) rfl, kt (List.mem_append_left _ (List.mem_of_getElem? (i := 3) rfl)) rfl, by decide, by decide⟩
theorem ka_BC_mixedTwice : kArgs y_BC_mixedTwice 1 := by unfold kArgs; decide +kernel
set_option maxRecDepth 100000 in
theorem kq_RW_xor : kCode y_RW_xor c_RW_xor 3 none := ⟨kt (List.mem_append_right _ (List.mem_append_left _ (List.mem_of_getElem? (i := 178) rfl))) rfl, kt (List.mem_append_left _ (List.mem_of_getElem? (i := 12) rfl)) rfl, by decide, by decide⟩
theorem ka_RW_xor : kArgs y_RW_xor 2 := by unfold kArgs; decide +kernel
set_option maxRecDepth 100000 in
theorem kq_TW_step : kCode y_TW_step c_TW_step 2 none := ⟨kt (List.mem_append_right _ (List.mem_append_left _ (List.mem_of_getElem? (i := 183) rfl))) rfl, kt (List.mem_append_left _ (List.mem_of_getElem? (i := 10) rfl)) rfl, by decide, by decide⟩
theorem ka_TW_step : kArgs y_TW_step 1 := by unfold kArgs; decide +kernel
set_option maxRecDepth 100000 in
theorem kq_TW_doubleTweak : kCode y_TW_doubleTweak c_TW_doubleTweak 4 none := ⟨kt (List.mem_append_right _ (List.mem_append_left _ (List.mem_of_getElem? (i := 188) rfl))) rfl, kt (List.mem_append_left _ (List.mem_of_getElem? (i := 10) rfl)) rfl, by decide, by decide⟩
theorem ka_TW_doubleTweak : kArgs y_TW_doubleTweak 1 := by unfold kArgs; decide +kernel
set_option maxRecDepth 100000 in
theorem kq_OU_addFirst : kCode y_OU_addFirst c_OU_addFirst 4 none := ⟨kt (List.mem_append_right _ (List.mem_append_left _ (List.mem_of_getElem? (i := 192) rfl))) rfl, kt (List.mem_append_left _ (List.mem_of_getElem? (i := 4) rfl)) rfl, by decide, by decide⟩
theorem ka_OU_addFirst : kArgs y_OU_addFirst 2 := by unfold kArgs; decide +kernel
set_option maxRecDepth 100000 in
theorem kq_OU_add : kCode y_OU_add c_OU_add 2 none := ⟨kt (List.mem_append_right _ (List.mem_append_left _ (List.mem_of_getElem? (i := 196) rfl))) rfl, kt (List.mem_append_left _ (List.mem_of_getElem? (i := 4) rfl)) rfl, by decide, by decide⟩
theorem ka_OU_add : kArgs y_OU_add 1 := by unfold kArgs; decide +kernel
set_option maxRecDepth 100000 in
theorem kq_SM_take : kCode y_SM_take c_SM_take 4 none := ⟨kt (List.mem_append_right _ (List.mem_append_left _ (List.mem_of_getElem? (i := 200) rfl))) rfl, kt (List.mem_append_left _ (List.mem_of_getElem? (i := 9) rfl)) rfl, by decide, by decide⟩
theorem ka_SM_take : kArgs y_SM_take 1 := by unfold kArgs; decide +kernel
set_option maxRecDepth 100000 in
theorem kq_SM_makeMask : kCode y_SM_makeMask c_SM_makeMask 1 none := ⟨kt (List.mem_append_right _ (List.mem_append_left _ (List.mem_of_getElem? (i := 204) rfl))) rfl, kt (List.mem_append_left _ (List.mem_of_getElem? (i := 9) rfl)) rfl, by decide, by decide⟩
theorem ka_SM_makeMask : kArgs y_SM_makeMask 0 := by unfold kArgs; decide +kernel
set_option maxRecDepth 100000 in
theorem kq_SM_countLinkUp : kCode y_SM_countLinkUp c_SM_countLinkUp 3 none := ⟨kt (List.mem_append_right _ (List.mem_append_left _ (List.mem_of_getElem? (i := 210) rfl))) rfl, kt (List.mem_append_left _ (List.mem_of_getElem? (i := 9) rfl)) rfl, by decide, by decide⟩
theorem ka_SM_countLinkUp : kArgs y_SM_countLinkUp 0 := by unfold kArgs; decide +kernel
set_option maxRecDepth 100000 in
theorem kq_OU_count : kCode y_OU_count c_OU_count 1 (some .int) := ⟨kt (List.mem_append_right _ (List.mem_append_left _ (List.mem_of_getElem? (i := 217) rfl))) rfl, kt (List.mem_append_left _ (List.mem_of_getElem? (i := 4) rfl)) rfl, by decide, by decide⟩
theorem ka_OU_count : kArgs y_OU_count 0 := by unfold kArgs; decide +kernel
set_option maxRecDepth 100000 in
theorem kq_X_end : kCode y_X_end c_X_end 2 (some .int) := ⟨kt (List.mem_append_right _ (List.mem_append_left _ (List.mem_of_getElem? (i := 221) rfl))) rfl, kt (List.mem_append_left _ (List.mem_of_getElem? (i := 1) rfl)) rfl, by decide, by decide⟩
theorem ka_X_end : kArgs y_X_end 0 := by unfold kArgs; decide +kernel
set_option maxRecDepth 100000 in
theorem kq_CH_finish : kCode y_CH_finish c_CH_finish 1 (some .int) := ⟨kt (List.mem_append_right _ (List.mem_append_left _ (List.mem_of_getElem? (i := 227) rfl))) rfl, kt (List.mem_append_left _ (List.mem_of_getElem? (i := 7) rfl)) rfl, by decide, by decide⟩
theorem ka_CH_finish : kArgs y_CH_finish 0 := by unfold kArgs; decide +kernel
set_option maxRecDepth 100000 in
theorem kq_CH_giveUnpadded : kCode y_CH_giveUnpadded c_CH_giveUnpadded 2 (some .int) := ⟨kt (List.mem_append_right _ (List.mem_append_left _ (List.mem_of_getElem? (i := 231) rfl))) rfl, kt (List.mem_append_left _ (List.mem_of_getElem? (i := 7) rfl)) rfl, by decide, by decide⟩
theorem ka_CH_giveUnpadded : kArgs y_CH_giveUnpadded 0 := by unfold kArgs; decide +kernel
set_option maxRecDepth 100000 in
theorem kq_CH_endsWithPadding : kCode y_CH_endsWithPadding c_CH_endsWithPadding 3 (some .boolean) := ⟨kt (List.mem_append_right _ (List.mem_append_left _ (List.mem_of_getElem? (i := 236) rfl))) rfl, kt (List.mem_append_left _ (List.mem_of_getElem? (i := 7) rfl)) rfl, by decide, by decide⟩
theorem ka_CH_endsWithPadding : kArgs y_CH_endsWithPadding 1 := by unfold kArgs; decide +kernel
set_option maxRecDepth 100000 in
theorem kq_CH_fillWithPadding : kCode y_CH_fillWithPadding c_CH_fillWithPadding 3 none := ⟨kt (List.mem_append_right _ (List.mem_append_right _ (List.mem_append_left _ (List.mem_of_getElem? (i := 1) rfl)))) rfl, kt (List.mem_append_left _ (List.mem_of_getElem? (i := 7) rfl)) rfl, by decide, by decide⟩
theorem ka_CH_fillWithPadding : kArgs y_CH_fillWithPadding 0 := by unfold kArgs; decide +kernel
set_option maxRecDepth 100000 in
theorem kq_ST_finish : kCode y_ST_finish c_ST_finish 1 (some .int) := ⟨kt (List.mem_append_right _ (List.mem_append_right _ (List.mem_append_left _ (List.mem_of_getElem? (i := 9) rfl)))) rfl, kt (List.mem_append_left _ (List.mem_of_getElem? (i := 8) rfl)) rfl, by decide, by decide⟩
theorem ka_ST_finish : kArgs y_ST_finish 0 := by unfold kArgs; decide +kernel
set_option maxRecDepth 100000 in
theorem kq_ST_giveShownTail : kCode y_ST_giveShownTail c_ST_giveShownTail 3 none := ⟨kt (List.mem_append_right _ (List.mem_append_right _ (List.mem_append_left _ (List.mem_of_getElem? (i := 16) rfl)))) rfl, kt (List.mem_append_left _ (List.mem_of_getElem? (i := 8) rfl)) rfl, by decide, by decide⟩
theorem ka_ST_giveShownTail : kArgs y_ST_giveShownTail 1 := by unfold kArgs; decide +kernel
set_option maxRecDepth 100000 in
theorem kq_ST_cutBlockComesFirst : kCode y_ST_cutBlockComesFirst c_ST_cutBlockComesFirst 2 (some .boolean) := ⟨kt (List.mem_append_right _ (List.mem_append_right _ (List.mem_append_left _ (List.mem_of_getElem? (i := 20) rfl)))) rfl, kt (List.mem_append_left _ (List.mem_of_getElem? (i := 8) rfl)) rfl, by decide, by decide⟩
theorem ka_ST_cutBlockComesFirst : kArgs y_ST_cutBlockComesFirst 1 := by unfold kArgs; decide +kernel
set_option maxRecDepth 100000 in
theorem kq_ST_giveHiddenTail : kCode y_ST_giveHiddenTail c_ST_giveHiddenTail 3 none := ⟨kt (List.mem_append_right _ (List.mem_append_right _ (List.mem_append_left _ (List.mem_of_getElem? (i := 33) rfl)))) rfl, kt (List.mem_append_left _ (List.mem_of_getElem? (i := 8) rfl)) rfl, by decide, by decide⟩
theorem ka_ST_giveHiddenTail : kArgs y_ST_giveHiddenTail 1 := by unfold kArgs; decide +kernel
set_option maxRecDepth 100000 in
theorem kq_SM_finish : kCode y_SM_finish c_SM_finish 1 (some .int) := ⟨kt (List.mem_append_right _ (List.mem_append_right _ (List.mem_append_left _ (List.mem_of_getElem? (i := 36) rfl)))) rfl, kt (List.mem_append_left _ (List.mem_of_getElem? (i := 9) rfl)) rfl, by decide, by decide⟩
theorem ka_SM_finish : kArgs y_SM_finish 0 := by unfold kArgs; decide +kernel
set_option maxRecDepth 100000 in
theorem kq_TW_finish : kCode y_TW_finish c_TW_finish 4 (some .int) := ⟨kt (List.mem_append_right _ (List.mem_append_right _ (List.mem_append_left _ (List.mem_of_getElem? (i := 39) rfl)))) rfl, kt (List.mem_append_left _ (List.mem_of_getElem? (i := 10) rfl)) rfl, by decide, by decide⟩
theorem ka_TW_finish : kArgs y_TW_finish 0 := by unfold kArgs; decide +kernel
set_option maxRecDepth 100000 in
theorem kq_TW_giveStolenTail : kCode y_TW_giveStolenTail c_TW_giveStolenTail 2 none := ⟨kt (List.mem_append_right _ (List.mem_append_right _ (List.mem_append_left _ (List.mem_of_getElem? (i := 43) rfl)))) rfl, kt (List.mem_append_left _ (List.mem_of_getElem? (i := 10) rfl)) rfl, by decide, by decide⟩
theorem ka_TW_giveStolenTail : kArgs y_TW_giveStolenTail 1 := by unfold kArgs; decide +kernel
set_option maxRecDepth 100000 in
theorem kq_X_given : kCode y_X_given c_X_given 2 (some .int) := ⟨kt (List.mem_append_right _ (List.mem_append_right _ (List.mem_append_left _ (List.mem_of_getElem? (i := 54) rfl)))) rfl, kt (List.mem_append_left _ (List.mem_of_getElem? (i := 1) rfl)) rfl, by decide, by decide⟩
theorem ka_X_given : kArgs y_X_given 1 := by unfold kArgs; decide +kernel
set_option maxRecDepth 100000 in
theorem kq_OU_at : kCode y_OU_at c_OU_at 2 (some .int) := ⟨kt (List.mem_append_right _ (List.mem_append_right _ (List.mem_append_left _ (List.mem_of_getElem? (i := 58) rfl)))) rfl, kt (List.mem_append_left _ (List.mem_of_getElem? (i := 4) rfl)) rfl, by decide, by decide⟩
theorem ka_OU_at : kArgs y_OU_at 1 := by unfold kArgs; decide +kernel
set_option maxRecDepth 100000 in
theorem kq_X_block : kCode y_X_block c_X_block 4 (some .long) := ⟨kt (List.mem_append_right _ (List.mem_append_right _ (List.mem_append_left _ (List.mem_of_getElem? (i := 62) rfl)))) rfl, kt (List.mem_append_left _ (List.mem_of_getElem? (i := 1) rfl)) rfl, by decide, by decide⟩
theorem ka_X_block : kArgs y_X_block 3 := by unfold kArgs; decide +kernel
set_option maxRecDepth 100000 in
theorem kq_RW_longAt : kCode y_RW_longAt c_RW_longAt 2 (some .long) := ⟨kt (List.mem_append_right _ (List.mem_append_right _ (List.mem_append_left _ (List.mem_of_getElem? (i := 66) rfl)))) rfl, kt (List.mem_append_left _ (List.mem_of_getElem? (i := 12) rfl)) rfl, by decide, by decide⟩
theorem ka_RW_longAt : kArgs y_RW_longAt 2 := by unfold kArgs; decide +kernel
set_option maxRecDepth 100000 in
theorem kq_X_box : kCode y_X_box c_X_box 3 (some .int) := ⟨kt (List.mem_append_right _ (List.mem_append_right _ (List.mem_append_left _ (List.mem_of_getElem? (i := 72) rfl)))) rfl, kt (List.mem_append_left _ (List.mem_of_getElem? (i := 1) rfl)) rfl, by decide, by decide⟩
theorem ka_X_box : kArgs y_X_box 2 := by unfold kArgs; decide +kernel
set_option maxRecDepth 100000 in
theorem kq_X_isByte : kCode y_X_isByte c_X_isByte 1 (some .boolean) := ⟨kt (List.mem_append_right _ (List.mem_append_right _ (List.mem_append_left _ (List.mem_of_getElem? (i := 75) rfl)))) rfl, kt (List.mem_append_left _ (List.mem_of_getElem? (i := 1) rfl)) rfl, by decide, by decide⟩
theorem ka_X_isByte : kArgs y_X_isByte 1 := by unfold kArgs; decide +kernel
set_option maxRecDepth 100000 in
theorem kq_BX_withBox : kCode y_BX_withBox c_BX_withBox 2 (some .int) := ⟨kt (List.mem_append_right _ (List.mem_append_right _ (List.mem_append_left _ (List.mem_of_getElem? (i := 79) rfl)))) rfl, kt (List.mem_append_left _ (List.mem_of_getElem? (i := 2) rfl)) rfl, by decide, by decide⟩
theorem ka_BX_withBox : kArgs y_BX_withBox 1 := by unfold kArgs; decide +kernel
set_option maxRecDepth 100000 in
theorem kq_BX_boxOf : kCode y_BX_boxOf c_BX_boxOf 2 (some .int) := ⟨kt (List.mem_append_right _ (List.mem_append_right _ (List.mem_append_left _ (List.mem_of_getElem? (i := 83) rfl)))) rfl, kt (List.mem_append_left _ (List.mem_of_getElem? (i := 2) rfl)) rfl, by decide, by decide⟩
theorem ka_BX_boxOf : kArgs y_BX_boxOf 1 := by unfold kArgs; decide +kernel
set_option maxRecDepth 100000 in
theorem kq_X_product : kCode y_X_product c_X_product 3 (some .int) := ⟨kt (List.mem_append_right _ (List.mem_append_right _ (List.mem_append_left _ (List.mem_of_getElem? (i := 87) rfl)))) rfl, kt (List.mem_append_left _ (List.mem_of_getElem? (i := 1) rfl)) rfl, by decide, by decide⟩
theorem ka_X_product : kArgs y_X_product 2 := by unfold kArgs; decide +kernel
set_option maxRecDepth 100000 in
theorem kq_BX_times : kCode y_BX_times c_BX_times 5 (some .int) := ⟨kt (List.mem_append_right _ (List.mem_append_right _ (List.mem_append_left _ (List.mem_of_getElem? (i := 90) rfl)))) rfl, kt (List.mem_append_left _ (List.mem_of_getElem? (i := 2) rfl)) rfl, by decide, by decide⟩
theorem ka_BX_times : kArgs y_BX_times 2 := by unfold kArgs; decide +kernel
set_option maxRecDepth 100000 in
theorem kq_M_init : kCode y_M_init c_M_init 6 none := ⟨kt (List.mem_append_right _ (List.mem_append_right _ (List.mem_append_left _ (List.mem_of_getElem? (i := 95) rfl)))) rfl, kt (List.mem_append_left _ (List.mem_of_getElem? (i := 11) rfl)) rfl, by decide, by decide⟩
theorem ka_M_init : kArgs y_M_init 0 := by unfold kArgs; decide +kernel
set_option maxRecDepth 100000 in
theorem kq_M_inverse : kCode y_M_inverse c_M_inverse 2 (some .int) := ⟨kt (List.mem_append_right _ (List.mem_append_right _ (List.mem_append_left _ (List.mem_of_getElem? (i := 99) rfl)))) rfl, kt (List.mem_append_left _ (List.mem_of_getElem? (i := 11) rfl)) rfl, by decide, by decide⟩
theorem ka_M_inverse : kArgs y_M_inverse 1 := by unfold kArgs; decide +kernel
set_option maxRecDepth 100000 in
theorem kq_M_times : kCode y_M_times c_M_times 4 (some .int) := ⟨kt (List.mem_append_right _ (List.mem_append_right _ (List.mem_append_left _ (List.mem_of_getElem? (i := 102) rfl)))) rfl, kt (List.mem_append_left _ (List.mem_of_getElem? (i := 11) rfl)) rfl, by decide, by decide⟩
theorem ka_M_times : kArgs y_M_times 2 := by unfold kArgs; decide +kernel
set_option maxRecDepth 100000 in
theorem kq_M_box : kCode y_M_box c_M_box 3 (some .int) := ⟨kt (List.mem_append_right _ (List.mem_append_right _ (List.mem_append_left _ (List.mem_of_getElem? (i := 173) rfl)))) rfl, kt (List.mem_append_left _ (List.mem_of_getElem? (i := 11) rfl)) rfl, by decide, by decide⟩
theorem ka_M_box : kArgs y_M_box 2 := by unfold kArgs; decide +kernel
set_option maxRecDepth 100000 in
theorem kq_M_isByte : kCode y_M_isByte c_M_isByte 1 (some .boolean) := ⟨kt (List.mem_append_right _ (List.mem_append_right _ (List.mem_append_left _ (List.mem_of_getElem? (i := 176) rfl)))) rfl, kt (List.mem_append_left _ (List.mem_of_getElem? (i := 11) rfl)) rfl, by decide, by decide⟩
theorem ka_M_isByte : kArgs y_M_isByte 1 := by unfold kArgs; decide +kernel
set_option maxRecDepth 100000 in
theorem kq_M_product : kCode y_M_product c_M_product 3 (some .int) := ⟨kt (List.mem_append_right _ (List.mem_append_right _ (List.mem_append_left _ (List.mem_of_getElem? (i := 180) rfl)))) rfl, kt (List.mem_append_left _ (List.mem_of_getElem? (i := 11) rfl)) rfl, by decide, by decide⟩
theorem ka_M_product : kArgs y_M_product 2 := by unfold kArgs; decide +kernel
set_option maxRecDepth 100000 in
theorem kq_M_key : kCode y_M_key c_M_key 5 (some .boolean) := ⟨kt (List.mem_append_right _ (List.mem_append_right _ (List.mem_append_left _ (List.mem_of_getElem? (i := 184) rfl)))) rfl, kt (List.mem_append_left _ (List.mem_of_getElem? (i := 11) rfl)) rfl, by decide, by decide⟩
theorem ka_M_key : kArgs y_M_key 2 := by unfold kArgs; decide +kernel
set_option maxRecDepth 100000 in
theorem kq_M_byteOf : kCode y_M_byteOf c_M_byteOf 3 (some .int) := ⟨kt (List.mem_append_right _ (List.mem_append_right _ (List.mem_append_left _ (List.mem_of_getElem? (i := 187) rfl)))) rfl, kt (List.mem_append_left _ (List.mem_of_getElem? (i := 11) rfl)) rfl, by decide, by decide⟩
theorem ka_M_byteOf : kArgs y_M_byteOf 2 := by unfold kArgs; decide +kernel
set_option maxRecDepth 100000 in
theorem kq_M_initial : kCode y_M_initial c_M_initial 5 (some .boolean) := ⟨kt (List.mem_append_right _ (List.mem_append_right _ (List.mem_append_left _ (List.mem_of_getElem? (i := 192) rfl)))) rfl, kt (List.mem_append_left _ (List.mem_of_getElem? (i := 11) rfl)) rfl, by decide, by decide⟩
theorem ka_M_initial : kArgs y_M_initial 2 := by unfold kArgs; decide +kernel
set_option maxRecDepth 100000 in
theorem kq_M_begin : kCode y_M_begin c_M_begin 5 (some .int) := ⟨kt (List.mem_append_right _ (List.mem_append_right _ (List.mem_append_left _ (List.mem_of_getElem? (i := 196) rfl)))) rfl, kt (List.mem_append_left _ (List.mem_of_getElem? (i := 11) rfl)) rfl, by decide, by decide⟩
theorem ka_M_begin : kArgs y_M_begin 3 := by unfold kArgs; decide +kernel
set_option maxRecDepth 100000 in
theorem kq_M_isKey : kCode y_M_isKey c_M_isKey 1 (some .boolean) := ⟨kt (List.mem_append_right _ (List.mem_append_right _ (List.mem_append_left _ (List.mem_of_getElem? (i := 199) rfl)))) rfl, kt (List.mem_append_left _ (List.mem_of_getElem? (i := 11) rfl)) rfl, by decide, by decide⟩
theorem ka_M_isKey : kArgs y_M_isKey 1 := by unfold kArgs; decide +kernel
set_option maxRecDepth 100000 in
theorem kq_M_expand : kCode y_M_expand c_M_expand 8 none := ⟨kt (List.mem_append_right _ (List.mem_append_right _ (List.mem_append_left _ (List.mem_of_getElem? (i := 203) rfl)))) rfl, kt (List.mem_append_left _ (List.mem_of_getElem? (i := 11) rfl)) rfl, by decide, by decide⟩
theorem ka_M_expand : kArgs y_M_expand 3 := by unfold kArgs; decide +kernel
set_option maxRecDepth 100000 in
theorem kq_M_feed : kCode y_M_feed c_M_feed 6 (some .int) := ⟨kt (List.mem_append_right _ (List.mem_append_right _ (List.mem_append_left _ (List.mem_of_getElem? (i := 207) rfl)))) rfl, kt (List.mem_append_left _ (List.mem_of_getElem? (i := 11) rfl)) rfl, by decide, by decide⟩
theorem ka_M_feed : kArgs y_M_feed 2 := by unfold kArgs; decide +kernel
set_option maxRecDepth 100000 in
theorem kq_M_due : kCode y_M_due c_M_due 1 (some .int) := ⟨kt (List.mem_append_right _ (List.mem_append_right _ (List.mem_append_left _ (List.mem_of_getElem? (i := 211) rfl)))) rfl, kt (List.mem_append_left _ (List.mem_of_getElem? (i := 11) rfl)) rfl, by decide, by decide⟩
theorem ka_M_due : kArgs y_M_due 0 := by unfold kArgs; decide +kernel
set_option maxRecDepth 100000 in
theorem kq_M_whole : kCode y_M_whole c_M_whole 3 none := ⟨kt (List.mem_append_right _ (List.mem_append_right _ (List.mem_append_left _ (List.mem_of_getElem? (i := 215) rfl)))) rfl, kt (List.mem_append_left _ (List.mem_of_getElem? (i := 11) rfl)) rfl, by decide, by decide⟩
theorem ka_M_whole : kArgs y_M_whole 1 := by unfold kArgs; decide +kernel
set_option maxRecDepth 100000 in
theorem kq_M_turn : kCode y_M_turn c_M_turn 2 none := ⟨kt (List.mem_append_right _ (List.mem_append_right _ (List.mem_append_left _ (List.mem_of_getElem? (i := 219) rfl)))) rfl, kt (List.mem_append_left _ (List.mem_of_getElem? (i := 11) rfl)) rfl, by decide, by decide⟩
theorem ka_M_turn : kArgs y_M_turn 1 := by unfold kArgs; decide +kernel
set_option maxRecDepth 100000 in
theorem kq_M_show : kCode y_M_show c_M_show 5 none := ⟨kt (List.mem_append_right _ (List.mem_append_right _ (List.mem_append_left _ (List.mem_of_getElem? (i := 223) rfl)))) rfl, kt (List.mem_append_left _ (List.mem_of_getElem? (i := 11) rfl)) rfl, by decide, by decide⟩
theorem ka_M_show : kArgs y_M_show 2 := by unfold kArgs; decide +kernel
set_option maxRecDepth 100000 in
theorem kq_M_addKey : kCode y_M_addKey c_M_addKey 4 none := ⟨kt (List.mem_append_right _ (List.mem_append_right _ (List.mem_append_left _ (List.mem_of_getElem? (i := 227) rfl)))) rfl, kt (List.mem_append_left _ (List.mem_of_getElem? (i := 11) rfl)) rfl, by decide, by decide⟩
theorem ka_M_addKey : kArgs y_M_addKey 2 := by unfold kArgs; decide +kernel
set_option maxRecDepth 100000 in
theorem kq_M_mix : kCode y_M_mix c_M_mix 8 none := ⟨kt (List.mem_append_right _ (List.mem_append_right _ (List.mem_append_left _ (List.mem_of_getElem? (i := 231) rfl)))) rfl, kt (List.mem_append_left _ (List.mem_of_getElem? (i := 11) rfl)) rfl, by decide, by decide⟩
theorem ka_M_mix : kArgs y_M_mix 4 := by unfold kArgs; decide +kernel
set_option maxRecDepth 100000 in
theorem kq_M_turnRows : kCode y_M_turnRows c_M_turnRows 4 none := ⟨kt (List.mem_append_right _ (List.mem_append_right _ (List.mem_append_left _ (List.mem_of_getElem? (i := 235) rfl)))) rfl, kt (List.mem_append_left _ (List.mem_of_getElem? (i := 11) rfl)) rfl, by decide, by decide⟩
theorem ka_M_turnRows : kArgs y_M_turnRows 1 := by unfold kArgs; decide +kernel
set_option maxRecDepth 100000 in
theorem kq_M_hide : kCode y_M_hide c_M_hide 5 none := ⟨kt (List.mem_append_right _ (List.mem_append_right _ (List.mem_append_left _ (List.mem_of_getElem? (i := 239) rfl)))) rfl, kt (List.mem_append_left _ (List.mem_of_getElem? (i := 11) rfl)) rfl, by decide, by decide⟩
theorem ka_M_hide : kArgs y_M_hide 2 := by unfold kArgs; decide +kernel
set_option maxRecDepth 100000 in
theorem kq_M_tweaked : kCode y_M_tweaked c_M_tweaked 3 none := ⟨kt (List.mem_append_right _ (List.mem_append_right _ (List.mem_append_right _ (List.mem_of_getElem? (i := 3) rfl)))) rfl, kt (List.mem_append_left _ (List.mem_of_getElem? (i := 11) rfl)) rfl, by decide, by decide⟩
theorem ka_M_tweaked : kArgs y_M_tweaked 1 := by unfold kArgs; decide +kernel
set_option maxRecDepth 100000 in
theorem kq_M_multiples : kCode y_M_multiples c_M_multiples 5 none := ⟨kt (List.mem_append_right _ (List.mem_append_right _ (List.mem_append_right _ (List.mem_of_getElem? (i := 7) rfl)))) rfl, kt (List.mem_append_left _ (List.mem_of_getElem? (i := 11) rfl)) rfl, by decide, by decide⟩
theorem ka_M_multiples : kArgs y_M_multiples 1 := by unfold kArgs; decide +kernel
set_option maxRecDepth 100000 in
theorem kq_M_before : kCode y_M_before c_M_before 3 (some .int) := ⟨kt (List.mem_append_right _ (List.mem_append_right _ (List.mem_append_right _ (List.mem_of_getElem? (i := 11) rfl)))) rfl, kt (List.mem_append_left _ (List.mem_of_getElem? (i := 11) rfl)) rfl, by decide, by decide⟩
theorem ka_M_before : kArgs y_M_before 2 := by unfold kArgs; decide +kernel
set_option maxRecDepth 100000 in
theorem kq_M_single : kCode y_M_single c_M_single 5 none := ⟨kt (List.mem_append_right _ (List.mem_append_right _ (List.mem_append_right _ (List.mem_of_getElem? (i := 15) rfl)))) rfl, kt (List.mem_append_left _ (List.mem_of_getElem? (i := 11) rfl)) rfl, by decide, by decide⟩
theorem ka_M_single : kArgs y_M_single 1 := by unfold kArgs; decide +kernel
set_option maxRecDepth 100000 in
theorem kq_M_hiddenByte : kCode y_M_hiddenByte c_M_hiddenByte 2 (some .int) := ⟨kt (List.mem_append_right _ (List.mem_append_right _ (List.mem_append_right _ (List.mem_of_getElem? (i := 19) rfl)))) rfl, kt (List.mem_append_left _ (List.mem_of_getElem? (i := 11) rfl)) rfl, by decide, by decide⟩
theorem ka_M_hiddenByte : kArgs y_M_hiddenByte 1 := by unfold kArgs; decide +kernel
set_option maxRecDepth 100000 in
theorem kq_M_help : kCode y_M_help c_M_help 5 none := ⟨kt (List.mem_append_right _ (List.mem_append_right _ (List.mem_append_right _ (List.mem_of_getElem? (i := 23) rfl)))) rfl, kt (List.mem_append_left _ (List.mem_of_getElem? (i := 11) rfl)) rfl, by decide, by decide⟩
theorem ka_M_help : kArgs y_M_help 1 := by unfold kArgs; decide +kernel
set_option maxRecDepth 100000 in
theorem kq_M_end : kCode y_M_end c_M_end 2 (some .int) := ⟨kt (List.mem_append_right _ (List.mem_append_right _ (List.mem_append_right _ (List.mem_of_getElem? (i := 27) rfl)))) rfl, kt (List.mem_append_left _ (List.mem_of_getElem? (i := 11) rfl)) rfl, by decide, by decide⟩
theorem ka_M_end : kArgs y_M_end 0 := by unfold kArgs; decide +kernel
set_option maxRecDepth 100000 in
theorem kq_M_endShown : kCode y_M_endShown c_M_endShown 5 (some .int) := ⟨kt (List.mem_append_right _ (List.mem_append_right _ (List.mem_append_right _ (List.mem_of_getElem? (i := 31) rfl)))) rfl, kt (List.mem_append_left _ (List.mem_of_getElem? (i := 11) rfl)) rfl, by decide, by decide⟩
theorem ka_M_endShown : kArgs y_M_endShown 1 := by unfold kArgs; decide +kernel
set_option maxRecDepth 100000 in
theorem kq_M_endPadded : kCode y_M_endPadded c_M_endPadded 3 (some .int) := ⟨kt (List.mem_append_right _ (List.mem_append_right _ (List.mem_append_right _ (List.mem_of_getElem? (i := 35) rfl)))) rfl, kt (List.mem_append_left _ (List.mem_of_getElem? (i := 11) rfl)) rfl, by decide, by decide⟩
theorem ka_M_endPadded : kArgs y_M_endPadded 1 := by unfold kArgs; decide +kernel
set_option maxRecDepth 100000 in
theorem kq_M_endStolen : kCode y_M_endStolen c_M_endStolen 3 none := ⟨kt (List.mem_append_right _ (List.mem_append_right _ (List.mem_append_right _ (List.mem_of_getElem? (i := 39) rfl)))) rfl, kt (List.mem_append_left _ (List.mem_of_getElem? (i := 11) rfl)) rfl, by decide, by decide⟩
theorem ka_M_endStolen : kArgs y_M_endStolen 0 := by unfold kArgs; decide +kernel
set_option maxRecDepth 100000 in
theorem kq_M_endTweaked : kCode y_M_endTweaked c_M_endTweaked 5 none := ⟨kt (List.mem_append_right _ (List.mem_append_right _ (List.mem_append_right _ (List.mem_of_getElem? (i := 43) rfl)))) rfl, kt (List.mem_append_left _ (List.mem_of_getElem? (i := 11) rfl)) rfl, by decide, by decide⟩
theorem ka_M_endTweaked : kArgs y_M_endTweaked 2 := by unfold kArgs; decide +kernel
set_option maxRecDepth 100000 in
theorem kq_M_showStolen : kCode y_M_showStolen c_M_showStolen 7 none := ⟨kt (List.mem_append_right _ (List.mem_append_right _ (List.mem_append_right _ (List.mem_of_getElem? (i := 47) rfl)))) rfl, kt (List.mem_append_left _ (List.mem_of_getElem? (i := 11) rfl)) rfl, by decide, by decide⟩
theorem ka_M_showStolen : kArgs y_M_showStolen 2 := by unfold kArgs; decide +kernel
set_option maxRecDepth 100000 in
theorem kq_M_isShortFirst : kCode y_M_isShortFirst c_M_isShortFirst 2 (some .boolean) := ⟨kt (List.mem_append_right _ (List.mem_append_right _ (List.mem_append_right _ (List.mem_of_getElem? (i := 51) rfl)))) rfl, kt (List.mem_append_left _ (List.mem_of_getElem? (i := 11) rfl)) rfl, by decide, by decide⟩
theorem ka_M_isShortFirst : kArgs y_M_isShortFirst 1 := by unfold kArgs; decide +kernel
set_option maxRecDepth 100000 in
theorem kq_M_hideStolen : kCode y_M_hideStolen c_M_hideStolen 7 none := ⟨kt (List.mem_append_right _ (List.mem_append_right _ (List.mem_append_right _ (List.mem_of_getElem? (i := 55) rfl)))) rfl, kt (List.mem_append_left _ (List.mem_of_getElem? (i := 11) rfl)) rfl, by decide, by decide⟩
theorem ka_M_hideStolen : kArgs y_M_hideStolen 2 := by unfold kArgs; decide +kernel
set_option maxRecDepth 100000 in
theorem kq_M_given : kCode y_M_given c_M_given 2 (some .int) := ⟨kt (List.mem_append_right _ (List.mem_append_right _ (List.mem_append_right _ (List.mem_of_getElem? (i := 59) rfl)))) rfl, kt (List.mem_append_left _ (List.mem_of_getElem? (i := 11) rfl)) rfl, by decide, by decide⟩
theorem ka_M_given : kArgs y_M_given 1 := by unfold kArgs; decide +kernel
set_option maxRecDepth 100000 in
theorem kq_M_block : kCode y_M_block c_M_block 7 (some .long) := ⟨kt (List.mem_append_right _ (List.mem_append_right _ (List.mem_append_right _ (List.mem_of_getElem? (i := 63) rfl)))) rfl, kt (List.mem_append_left _ (List.mem_of_getElem? (i := 11) rfl)) rfl, by decide, by decide⟩
theorem ka_M_block : kArgs y_M_block 3 := by unfold kArgs; decide +kernel
set_option maxRecDepth 100000 in
theorem kn_copy : Cond.native arraycopyName ∈ kWS := kt (List.mem_append_right _ (List.mem_append_left _ (List.mem_of_getElem? (i := 66) rfl))) rfl
set_option maxRecDepth 100000 in
theorem ks_copy : Cond.static arraycopyName ∈ kWS := kt (List.mem_append_right _ (List.mem_append_left _ (List.mem_of_getElem? (i := 65) rfl))) rfl
set_option maxRecDepth 100000 in
theorem ki_SYS : Cond.initialized "java/lang/System" ∈ kWS := kt (List.mem_append_left _ (List.mem_of_getElem? (i := 13) rfl)) rfl
-- arrayClass words: 1 [('arrayClass', '(Jvm.Cond.arrayClass Jvm.ClassFile.FieldType.int)')]
set_option maxRecDepth 100000 in
theorem kw_int : Cond.arrayClass .int ∈ kWS := kt (List.mem_append_left _ (List.mem_of_getElem? (i := 47) rfl)) rfl
set_option maxRecDepth 100000 in
theorem kw_X_7 : kNewW RX 7 1 [.inr .null, .inr .null] 2 := ⟨RBX, TBX, tyBX, rfl, kuBX, tyoBX, kt (List.mem_append_left _ (List.mem_of_getElem? (i := 22) rfl)) rfl, kt (List.mem_append_left _ (List.mem_of_getElem? (i := 23) rfl)) rfl, kt (List.mem_append_left _ (List.mem_of_getElem? (i := 2) rfl)) rfl, by decide +kernel⟩
set_option maxRecDepth 100000 in
theorem kw_X_26 : kNewW RX 26 0 [.inr .null, .inr .null, .inr .null, .inl 0] 4 := ⟨RBC, TBC, tyBC, rfl, kuBC, tyoBC, kt (List.mem_append_left _ (List.mem_of_getElem? (i := 48) rfl)) rfl, kt (List.mem_append_left _ (List.mem_of_getElem? (i := 49) rfl)) rfl, kt (List.mem_append_left _ (List.mem_of_getElem? (i := 3) rfl)) rfl, by decide +kernel⟩
set_option maxRecDepth 100000 in
theorem kw_X_38 : kNewW RX 38 3 [.inr .null, .inl 0] 2 := ⟨ROU, TOU, tyOU, rfl, kuOU, tyoOU, kt (List.mem_append_left _ (List.mem_of_getElem? (i := 67) rfl)) rfl, kt (List.mem_append_left _ (List.mem_of_getElem? (i := 68) rfl)) rfl, kt (List.mem_append_left _ (List.mem_of_getElem? (i := 4) rfl)) rfl, by decide +kernel⟩
set_option maxRecDepth 100000 in
theorem kw_X_45 : kNewW RX 45 2 [.inr .null, .inr .null, .inl 0, .inr .null, .inr .null, .inr .null, .inr .null, .inr .null, .inl 0, .inl 0] 10 := ⟨RCH, TCH, tyCH, rfl, kuCH, tyoCH, kt (List.mem_append_left _ (List.mem_of_getElem? (i := 80) rfl)) rfl, kt (List.mem_append_left _ (List.mem_of_getElem? (i := 81) rfl)) rfl, kt (List.mem_append_left _ (List.mem_of_getElem? (i := 7) rfl)) rfl, by decide +kernel⟩
set_option maxRecDepth 100000 in
theorem kw_X_54 : kNewW RX 54 4 [.inr .null, .inr .null, .inl 0, .inr .null, .inr .null, .inr .null, .inr .null, .inr .null, .inl 0, .inl 0] 10 := ⟨RST, TST, tyST, rfl, kuST, tyoST, kt (List.mem_append_left _ (List.mem_of_getElem? (i := 183) rfl)) rfl, kt (List.mem_append_left _ (List.mem_of_getElem? (i := 184) rfl)) rfl, kt (List.mem_append_left _ (List.mem_of_getElem? (i := 8) rfl)) rfl, by decide +kernel⟩
set_option maxRecDepth 100000 in
theorem kw_X_60 : kNewW RX 60 5 [.inr .null, .inl 0, .inr .null, .inr .null, .inr .null, .inl 0, .inl 0] 7 := ⟨RSM, TSM, tySM, rfl, kuSM, tyoSM, kt (List.mem_append_left _ (List.mem_of_getElem? (i := 200) rfl)) rfl, kt (List.mem_append_left _ (List.mem_of_getElem? (i := 201) rfl)) rfl, kt (List.mem_append_left _ (List.mem_of_getElem? (i := 9) rfl)) rfl, by decide +kernel⟩
set_option maxRecDepth 100000 in
theorem kw_X_66 : kNewW RX 66 6 [.inr .null, .inr .null, .inl 0, .inr .null, .inr .null, .inr .null, .inr .null, .inr .null, .inl 0, .inl 0] 10 := ⟨RTW, TTW, tyTW, rfl, kuTW, tyoTW, kt (List.mem_append_left _ (List.mem_of_getElem? (i := 218) rfl)) rfl, kt (List.mem_append_left _ (List.mem_of_getElem? (i := 219) rfl)) rfl, kt (List.mem_append_left _ (List.mem_of_getElem? (i := 10) rfl)) rfl, by decide +kernel⟩
set_option maxRecDepth 100000 in
theorem kw_L_7 : kNewW RL 7 7 [.inr .null, .inr .null, .inr .null, .inr .null, .inr .null, .inr .null, .inr .null, .inr .null, .inr .null, .inr .null, .inr .null, .inr .null, .inl 0, .inl 0] 14 := ⟨RX, TX, tyX, rfl, kuX, tyoX, kt (List.mem_append_left _ (List.mem_of_getElem? (i := 14) rfl)) rfl, kt (List.mem_append_left _ (List.mem_of_getElem? (i := 15) rfl)) rfl, kt (List.mem_append_left _ (List.mem_of_getElem? (i := 1) rfl)) rfl, by decide +kernel⟩
set_option maxRecDepth 100000 in
theorem kw_L_10 : kNewW RL 10 8 [.inr .null, .inr .null, .inr .null, .inr .null, .inr .null, .inr .null, .inr .null, .inl 0, .inl 0, .inl 0, .inl 0, .inr .null, .inr .null, .inl 0, .inr .null, .inl 0, .inr .null, .inl 0, .inr .null, .inr .null, .inr .null, .inr .null] 22 := ⟨RM, TM, tyM, rfl, kuM, tyoM, kt (List.mem_append_right _ (List.mem_append_right _ (List.mem_append_left _ (List.mem_of_getElem? (i := 91) rfl)))) rfl, kt (List.mem_append_right _ (List.mem_append_right _ (List.mem_append_left _ (List.mem_of_getElem? (i := 92) rfl)))) rfl, kt (List.mem_append_left _ (List.mem_of_getElem? (i := 11) rfl)) rfl, by decide +kernel⟩
