/-! where the model leads, cell by cell -/
theorem lds_0_0 (rb : Int64) : fX6_leads rb (nI 0) (nI 0) = (-1 : Int32) := by rfl
theorem lds_0_1 (rb : Int64) : fX6_leads rb (nI 0) (nI 1) = (if ((rb >>> ((nI 1).toInt64 &&& (63 : Int64))) &&& (1 : Int64)) = (0 : Int64) then nI 1 else (-1 : Int32)) := by rfl
theorem lds_0_2 (rb : Int64) : fX6_leads rb (nI 0) (nI 2) = (if ((rb >>> ((nI 6).toInt64 &&& (63 : Int64))) &&& (1 : Int64)) = (0 : Int64) then nI 6 else (-1 : Int32)) := by rfl
theorem lds_0_3 (rb : Int64) : fX6_leads rb (nI 0) (nI 3) = (-1 : Int32) := by rfl
theorem lds_0_4 (rb : Int64) : fX6_leads rb (nI 0) (nI 4) = (if ((rb >>> ((nI 8).toInt64 &&& (63 : Int64))) &&& (1 : Int64)) = (0 : Int64) then nI 8 else (-1 : Int32)) := by rfl
theorem lds_1_0 (rb : Int64) : fX6_leads rb (nI 1) (nI 0) = (-1 : Int32) := by rfl
theorem lds_1_1 (rb : Int64) : fX6_leads rb (nI 1) (nI 1) = (if ((rb >>> ((nI 2).toInt64 &&& (63 : Int64))) &&& (1 : Int64)) = (0 : Int64) then nI 2 else (-1 : Int32)) := by rfl
theorem lds_1_2 (rb : Int64) : fX6_leads rb (nI 1) (nI 2) = (if ((rb >>> ((nI 7).toInt64 &&& (63 : Int64))) &&& (1 : Int64)) = (0 : Int64) then nI 7 else (-1 : Int32)) := by rfl
theorem lds_1_3 (rb : Int64) : fX6_leads rb (nI 1) (nI 3) = (if ((rb >>> ((nI 0).toInt64 &&& (63 : Int64))) &&& (1 : Int64)) = (0 : Int64) then nI 0 else (-1 : Int32)) := by rfl
theorem lds_1_4 (rb : Int64) : fX6_leads rb (nI 1) (nI 4) = (if ((rb >>> ((nI 9).toInt64 &&& (63 : Int64))) &&& (1 : Int64)) = (0 : Int64) then nI 9 else (-1 : Int32)) := by rfl
theorem lds_2_0 (rb : Int64) : fX6_leads rb (nI 2) (nI 0) = (-1 : Int32) := by rfl
theorem lds_2_1 (rb : Int64) : fX6_leads rb (nI 2) (nI 1) = (if ((rb >>> ((nI 3).toInt64 &&& (63 : Int64))) &&& (1 : Int64)) = (0 : Int64) then nI 3 else (-1 : Int32)) := by rfl
theorem lds_2_2 (rb : Int64) : fX6_leads rb (nI 2) (nI 2) = (if ((rb >>> ((nI 8).toInt64 &&& (63 : Int64))) &&& (1 : Int64)) = (0 : Int64) then nI 8 else (-1 : Int32)) := by rfl
theorem lds_2_3 (rb : Int64) : fX6_leads rb (nI 2) (nI 3) = (if ((rb >>> ((nI 1).toInt64 &&& (63 : Int64))) &&& (1 : Int64)) = (0 : Int64) then nI 1 else (-1 : Int32)) := by rfl
theorem lds_2_4 (rb : Int64) : fX6_leads rb (nI 2) (nI 4) = (if ((rb >>> ((nI 10).toInt64 &&& (63 : Int64))) &&& (1 : Int64)) = (0 : Int64) then nI 10 else (-1 : Int32)) := by rfl
theorem lds_3_0 (rb : Int64) : fX6_leads rb (nI 3) (nI 0) = (-1 : Int32) := by rfl
theorem lds_3_1 (rb : Int64) : fX6_leads rb (nI 3) (nI 1) = (if ((rb >>> ((nI 4).toInt64 &&& (63 : Int64))) &&& (1 : Int64)) = (0 : Int64) then nI 4 else (-1 : Int32)) := by rfl
theorem lds_3_2 (rb : Int64) : fX6_leads rb (nI 3) (nI 2) = (if ((rb >>> ((nI 9).toInt64 &&& (63 : Int64))) &&& (1 : Int64)) = (0 : Int64) then nI 9 else (-1 : Int32)) := by rfl
theorem lds_3_3 (rb : Int64) : fX6_leads rb (nI 3) (nI 3) = (if ((rb >>> ((nI 2).toInt64 &&& (63 : Int64))) &&& (1 : Int64)) = (0 : Int64) then nI 2 else (-1 : Int32)) := by rfl
theorem lds_3_4 (rb : Int64) : fX6_leads rb (nI 3) (nI 4) = (if ((rb >>> ((nI 11).toInt64 &&& (63 : Int64))) &&& (1 : Int64)) = (0 : Int64) then nI 11 else (-1 : Int32)) := by rfl
theorem lds_4_0 (rb : Int64) : fX6_leads rb (nI 4) (nI 0) = (-1 : Int32) := by rfl
theorem lds_4_1 (rb : Int64) : fX6_leads rb (nI 4) (nI 1) = (if ((rb >>> ((nI 5).toInt64 &&& (63 : Int64))) &&& (1 : Int64)) = (0 : Int64) then nI 5 else (-1 : Int32)) := by rfl
theorem lds_4_2 (rb : Int64) : fX6_leads rb (nI 4) (nI 2) = (if ((rb >>> ((nI 10).toInt64 &&& (63 : Int64))) &&& (1 : Int64)) = (0 : Int64) then nI 10 else (-1 : Int32)) := by rfl
theorem lds_4_3 (rb : Int64) : fX6_leads rb (nI 4) (nI 3) = (if ((rb >>> ((nI 3).toInt64 &&& (63 : Int64))) &&& (1 : Int64)) = (0 : Int64) then nI 3 else (-1 : Int32)) := by rfl
theorem lds_4_4 (rb : Int64) : fX6_leads rb (nI 4) (nI 4) = (-1 : Int32) := by rfl
theorem lds_5_0 (rb : Int64) : fX6_leads rb (nI 5) (nI 0) = (-1 : Int32) := by rfl
theorem lds_5_1 (rb : Int64) : fX6_leads rb (nI 5) (nI 1) = (-1 : Int32) := by rfl
theorem lds_5_2 (rb : Int64) : fX6_leads rb (nI 5) (nI 2) = (if ((rb >>> ((nI 11).toInt64 &&& (63 : Int64))) &&& (1 : Int64)) = (0 : Int64) then nI 11 else (-1 : Int32)) := by rfl
theorem lds_5_3 (rb : Int64) : fX6_leads rb (nI 5) (nI 3) = (if ((rb >>> ((nI 4).toInt64 &&& (63 : Int64))) &&& (1 : Int64)) = (0 : Int64) then nI 4 else (-1 : Int32)) := by rfl
theorem lds_5_4 (rb : Int64) : fX6_leads rb (nI 5) (nI 4) = (-1 : Int32) := by rfl
theorem lds_6_0 (rb : Int64) : fX6_leads rb (nI 6) (nI 0) = (if ((rb >>> ((nI 0).toInt64 &&& (63 : Int64))) &&& (1 : Int64)) = (0 : Int64) then nI 0 else (-1 : Int32)) := by rfl
theorem lds_6_1 (rb : Int64) : fX6_leads rb (nI 6) (nI 1) = (if ((rb >>> ((nI 7).toInt64 &&& (63 : Int64))) &&& (1 : Int64)) = (0 : Int64) then nI 7 else (-1 : Int32)) := by rfl
theorem lds_6_2 (rb : Int64) : fX6_leads rb (nI 6) (nI 2) = (if ((rb >>> ((nI 12).toInt64 &&& (63 : Int64))) &&& (1 : Int64)) = (0 : Int64) then nI 12 else (-1 : Int32)) := by rfl
theorem lds_6_3 (rb : Int64) : fX6_leads rb (nI 6) (nI 3) = (-1 : Int32) := by rfl
theorem lds_6_4 (rb : Int64) : fX6_leads rb (nI 6) (nI 4) = (if ((rb >>> ((nI 14).toInt64 &&& (63 : Int64))) &&& (1 : Int64)) = (0 : Int64) then nI 14 else (-1 : Int32)) := by rfl
theorem lds_7_0 (rb : Int64) : fX6_leads rb (nI 7) (nI 0) = (if ((rb >>> ((nI 1).toInt64 &&& (63 : Int64))) &&& (1 : Int64)) = (0 : Int64) then nI 1 else (-1 : Int32)) := by rfl
theorem lds_7_1 (rb : Int64) : fX6_leads rb (nI 7) (nI 1) = (if ((rb >>> ((nI 8).toInt64 &&& (63 : Int64))) &&& (1 : Int64)) = (0 : Int64) then nI 8 else (-1 : Int32)) := by rfl
theorem lds_7_2 (rb : Int64) : fX6_leads rb (nI 7) (nI 2) = (if ((rb >>> ((nI 13).toInt64 &&& (63 : Int64))) &&& (1 : Int64)) = (0 : Int64) then nI 13 else (-1 : Int32)) := by rfl
theorem lds_7_3 (rb : Int64) : fX6_leads rb (nI 7) (nI 3) = (if ((rb >>> ((nI 6).toInt64 &&& (63 : Int64))) &&& (1 : Int64)) = (0 : Int64) then nI 6 else (-1 : Int32)) := by rfl
theorem lds_7_4 (rb : Int64) : fX6_leads rb (nI 7) (nI 4) = (if ((rb >>> ((nI 15).toInt64 &&& (63 : Int64))) &&& (1 : Int64)) = (0 : Int64) then nI 15 else (-1 : Int32)) := by rfl
theorem lds_8_0 (rb : Int64) : fX6_leads rb (nI 8) (nI 0) = (if ((rb >>> ((nI 2).toInt64 &&& (63 : Int64))) &&& (1 : Int64)) = (0 : Int64) then nI 2 else (-1 : Int32)) := by rfl
theorem lds_8_1 (rb : Int64) : fX6_leads rb (nI 8) (nI 1) = (if ((rb >>> ((nI 9).toInt64 &&& (63 : Int64))) &&& (1 : Int64)) = (0 : Int64) then nI 9 else (-1 : Int32)) := by rfl
theorem lds_8_2 (rb : Int64) : fX6_leads rb (nI 8) (nI 2) = (if ((rb >>> ((nI 14).toInt64 &&& (63 : Int64))) &&& (1 : Int64)) = (0 : Int64) then nI 14 else (-1 : Int32)) := by rfl
theorem lds_8_3 (rb : Int64) : fX6_leads rb (nI 8) (nI 3) = (if ((rb >>> ((nI 7).toInt64 &&& (63 : Int64))) &&& (1 : Int64)) = (0 : Int64) then nI 7 else (-1 : Int32)) := by rfl
theorem lds_8_4 (rb : Int64) : fX6_leads rb (nI 8) (nI 4) = (if ((rb >>> ((nI 16).toInt64 &&& (63 : Int64))) &&& (1 : Int64)) = (0 : Int64) then nI 16 else (-1 : Int32)) := by rfl
theorem lds_9_0 (rb : Int64) : fX6_leads rb (nI 9) (nI 0) = (if ((rb >>> ((nI 3).toInt64 &&& (63 : Int64))) &&& (1 : Int64)) = (0 : Int64) then nI 3 else (-1 : Int32)) := by rfl
theorem lds_9_1 (rb : Int64) : fX6_leads rb (nI 9) (nI 1) = (if ((rb >>> ((nI 10).toInt64 &&& (63 : Int64))) &&& (1 : Int64)) = (0 : Int64) then nI 10 else (-1 : Int32)) := by rfl
theorem lds_9_2 (rb : Int64) : fX6_leads rb (nI 9) (nI 2) = (if ((rb >>> ((nI 15).toInt64 &&& (63 : Int64))) &&& (1 : Int64)) = (0 : Int64) then nI 15 else (-1 : Int32)) := by rfl
theorem lds_9_3 (rb : Int64) : fX6_leads rb (nI 9) (nI 3) = (if ((rb >>> ((nI 8).toInt64 &&& (63 : Int64))) &&& (1 : Int64)) = (0 : Int64) then nI 8 else (-1 : Int32)) := by rfl
theorem lds_9_4 (rb : Int64) : fX6_leads rb (nI 9) (nI 4) = (if ((rb >>> ((nI 17).toInt64 &&& (63 : Int64))) &&& (1 : Int64)) = (0 : Int64) then nI 17 else (-1 : Int32)) := by rfl
theorem lds_10_0 (rb : Int64) : fX6_leads rb (nI 10) (nI 0) = (if ((rb >>> ((nI 4).toInt64 &&& (63 : Int64))) &&& (1 : Int64)) = (0 : Int64) then nI 4 else (-1 : Int32)) := by rfl
theorem lds_10_1 (rb : Int64) : fX6_leads rb (nI 10) (nI 1) = (if ((rb >>> ((nI 11).toInt64 &&& (63 : Int64))) &&& (1 : Int64)) = (0 : Int64) then nI 11 else (-1 : Int32)) := by rfl
theorem lds_10_2 (rb : Int64) : fX6_leads rb (nI 10) (nI 2) = (if ((rb >>> ((nI 16).toInt64 &&& (63 : Int64))) &&& (1 : Int64)) = (0 : Int64) then nI 16 else (-1 : Int32)) := by rfl
theorem lds_10_3 (rb : Int64) : fX6_leads rb (nI 10) (nI 3) = (if ((rb >>> ((nI 9).toInt64 &&& (63 : Int64))) &&& (1 : Int64)) = (0 : Int64) then nI 9 else (-1 : Int32)) := by rfl
theorem lds_10_4 (rb : Int64) : fX6_leads rb (nI 10) (nI 4) = (-1 : Int32) := by rfl
theorem lds_11_0 (rb : Int64) : fX6_leads rb (nI 11) (nI 0) = (if ((rb >>> ((nI 5).toInt64 &&& (63 : Int64))) &&& (1 : Int64)) = (0 : Int64) then nI 5 else (-1 : Int32)) := by rfl
theorem lds_11_1 (rb : Int64) : fX6_leads rb (nI 11) (nI 1) = (-1 : Int32) := by rfl
theorem lds_11_2 (rb : Int64) : fX6_leads rb (nI 11) (nI 2) = (if ((rb >>> ((nI 17).toInt64 &&& (63 : Int64))) &&& (1 : Int64)) = (0 : Int64) then nI 17 else (-1 : Int32)) := by rfl
theorem lds_11_3 (rb : Int64) : fX6_leads rb (nI 11) (nI 3) = (if ((rb >>> ((nI 10).toInt64 &&& (63 : Int64))) &&& (1 : Int64)) = (0 : Int64) then nI 10 else (-1 : Int32)) := by rfl
theorem lds_11_4 (rb : Int64) : fX6_leads rb (nI 11) (nI 4) = (-1 : Int32) := by rfl
theorem lds_12_0 (rb : Int64) : fX6_leads rb (nI 12) (nI 0) = (if ((rb >>> ((nI 6).toInt64 &&& (63 : Int64))) &&& (1 : Int64)) = (0 : Int64) then nI 6 else (-1 : Int32)) := by rfl
theorem lds_12_1 (rb : Int64) : fX6_leads rb (nI 12) (nI 1) = (if ((rb >>> ((nI 13).toInt64 &&& (63 : Int64))) &&& (1 : Int64)) = (0 : Int64) then nI 13 else (-1 : Int32)) := by rfl
theorem lds_12_2 (rb : Int64) : fX6_leads rb (nI 12) (nI 2) = (if ((rb >>> ((nI 18).toInt64 &&& (63 : Int64))) &&& (1 : Int64)) = (0 : Int64) then nI 18 else (-1 : Int32)) := by rfl
theorem lds_12_3 (rb : Int64) : fX6_leads rb (nI 12) (nI 3) = (-1 : Int32) := by rfl
theorem lds_12_4 (rb : Int64) : fX6_leads rb (nI 12) (nI 4) = (if ((rb >>> ((nI 20).toInt64 &&& (63 : Int64))) &&& (1 : Int64)) = (0 : Int64) then nI 20 else (-1 : Int32)) := by rfl
theorem lds_13_0 (rb : Int64) : fX6_leads rb (nI 13) (nI 0) = (if ((rb >>> ((nI 7).toInt64 &&& (63 : Int64))) &&& (1 : Int64)) = (0 : Int64) then nI 7 else (-1 : Int32)) := by rfl
theorem lds_13_1 (rb : Int64) : fX6_leads rb (nI 13) (nI 1) = (if ((rb >>> ((nI 14).toInt64 &&& (63 : Int64))) &&& (1 : Int64)) = (0 : Int64) then nI 14 else (-1 : Int32)) := by rfl
theorem lds_13_2 (rb : Int64) : fX6_leads rb (nI 13) (nI 2) = (if ((rb >>> ((nI 19).toInt64 &&& (63 : Int64))) &&& (1 : Int64)) = (0 : Int64) then nI 19 else (-1 : Int32)) := by rfl
theorem lds_13_3 (rb : Int64) : fX6_leads rb (nI 13) (nI 3) = (if ((rb >>> ((nI 12).toInt64 &&& (63 : Int64))) &&& (1 : Int64)) = (0 : Int64) then nI 12 else (-1 : Int32)) := by rfl
theorem lds_13_4 (rb : Int64) : fX6_leads rb (nI 13) (nI 4) = (if ((rb >>> ((nI 21).toInt64 &&& (63 : Int64))) &&& (1 : Int64)) = (0 : Int64) then nI 21 else (-1 : Int32)) := by rfl
theorem lds_14_0 (rb : Int64) : fX6_leads rb (nI 14) (nI 0) = (if ((rb >>> ((nI 8).toInt64 &&& (63 : Int64))) &&& (1 : Int64)) = (0 : Int64) then nI 8 else (-1 : Int32)) := by rfl
theorem lds_14_1 (rb : Int64) : fX6_leads rb (nI 14) (nI 1) = (if ((rb >>> ((nI 15).toInt64 &&& (63 : Int64))) &&& (1 : Int64)) = (0 : Int64) then nI 15 else (-1 : Int32)) := by rfl
theorem lds_14_2 (rb : Int64) : fX6_leads rb (nI 14) (nI 2) = (if ((rb >>> ((nI 20).toInt64 &&& (63 : Int64))) &&& (1 : Int64)) = (0 : Int64) then nI 20 else (-1 : Int32)) := by rfl
theorem lds_14_3 (rb : Int64) : fX6_leads rb (nI 14) (nI 3) = (if ((rb >>> ((nI 13).toInt64 &&& (63 : Int64))) &&& (1 : Int64)) = (0 : Int64) then nI 13 else (-1 : Int32)) := by rfl
theorem lds_14_4 (rb : Int64) : fX6_leads rb (nI 14) (nI 4) = (if ((rb >>> ((nI 22).toInt64 &&& (63 : Int64))) &&& (1 : Int64)) = (0 : Int64) then nI 22 else (-1 : Int32)) := by rfl
theorem lds_15_0 (rb : Int64) : fX6_leads rb (nI 15) (nI 0) = (if ((rb >>> ((nI 9).toInt64 &&& (63 : Int64))) &&& (1 : Int64)) = (0 : Int64) then nI 9 else (-1 : Int32)) := by rfl
theorem lds_15_1 (rb : Int64) : fX6_leads rb (nI 15) (nI 1) = (if ((rb >>> ((nI 16).toInt64 &&& (63 : Int64))) &&& (1 : Int64)) = (0 : Int64) then nI 16 else (-1 : Int32)) := by rfl
theorem lds_15_2 (rb : Int64) : fX6_leads rb (nI 15) (nI 2) = (if ((rb >>> ((nI 21).toInt64 &&& (63 : Int64))) &&& (1 : Int64)) = (0 : Int64) then nI 21 else (-1 : Int32)) := by rfl
theorem lds_15_3 (rb : Int64) : fX6_leads rb (nI 15) (nI 3) = (if ((rb >>> ((nI 14).toInt64 &&& (63 : Int64))) &&& (1 : Int64)) = (0 : Int64) then nI 14 else (-1 : Int32)) := by rfl
theorem lds_15_4 (rb : Int64) : fX6_leads rb (nI 15) (nI 4) = (if ((rb >>> ((nI 23).toInt64 &&& (63 : Int64))) &&& (1 : Int64)) = (0 : Int64) then nI 23 else (-1 : Int32)) := by rfl
theorem lds_16_0 (rb : Int64) : fX6_leads rb (nI 16) (nI 0) = (if ((rb >>> ((nI 10).toInt64 &&& (63 : Int64))) &&& (1 : Int64)) = (0 : Int64) then nI 10 else (-1 : Int32)) := by rfl
theorem lds_16_1 (rb : Int64) : fX6_leads rb (nI 16) (nI 1) = (if ((rb >>> ((nI 17).toInt64 &&& (63 : Int64))) &&& (1 : Int64)) = (0 : Int64) then nI 17 else (-1 : Int32)) := by rfl
theorem lds_16_2 (rb : Int64) : fX6_leads rb (nI 16) (nI 2) = (if ((rb >>> ((nI 22).toInt64 &&& (63 : Int64))) &&& (1 : Int64)) = (0 : Int64) then nI 22 else (-1 : Int32)) := by rfl
theorem lds_16_3 (rb : Int64) : fX6_leads rb (nI 16) (nI 3) = (if ((rb >>> ((nI 15).toInt64 &&& (63 : Int64))) &&& (1 : Int64)) = (0 : Int64) then nI 15 else (-1 : Int32)) := by rfl
theorem lds_16_4 (rb : Int64) : fX6_leads rb (nI 16) (nI 4) = (-1 : Int32) := by rfl
theorem lds_17_0 (rb : Int64) : fX6_leads rb (nI 17) (nI 0) = (if ((rb >>> ((nI 11).toInt64 &&& (63 : Int64))) &&& (1 : Int64)) = (0 : Int64) then nI 11 else (-1 : Int32)) := by rfl
theorem lds_17_1 (rb : Int64) : fX6_leads rb (nI 17) (nI 1) = (-1 : Int32) := by rfl
theorem lds_17_2 (rb : Int64) : fX6_leads rb (nI 17) (nI 2) = (if ((rb >>> ((nI 23).toInt64 &&& (63 : Int64))) &&& (1 : Int64)) = (0 : Int64) then nI 23 else (-1 : Int32)) := by rfl
theorem lds_17_3 (rb : Int64) : fX6_leads rb (nI 17) (nI 3) = (if ((rb >>> ((nI 16).toInt64 &&& (63 : Int64))) &&& (1 : Int64)) = (0 : Int64) then nI 16 else (-1 : Int32)) := by rfl
theorem lds_17_4 (rb : Int64) : fX6_leads rb (nI 17) (nI 4) = (-1 : Int32) := by rfl
theorem lds_18_0 (rb : Int64) : fX6_leads rb (nI 18) (nI 0) = (if ((rb >>> ((nI 12).toInt64 &&& (63 : Int64))) &&& (1 : Int64)) = (0 : Int64) then nI 12 else (-1 : Int32)) := by rfl
theorem lds_18_1 (rb : Int64) : fX6_leads rb (nI 18) (nI 1) = (if ((rb >>> ((nI 19).toInt64 &&& (63 : Int64))) &&& (1 : Int64)) = (0 : Int64) then nI 19 else (-1 : Int32)) := by rfl
theorem lds_18_2 (rb : Int64) : fX6_leads rb (nI 18) (nI 2) = (if ((rb >>> ((nI 24).toInt64 &&& (63 : Int64))) &&& (1 : Int64)) = (0 : Int64) then nI 24 else (-1 : Int32)) := by rfl
theorem lds_18_3 (rb : Int64) : fX6_leads rb (nI 18) (nI 3) = (-1 : Int32) := by rfl
theorem lds_18_4 (rb : Int64) : fX6_leads rb (nI 18) (nI 4) = (if ((rb >>> ((nI 26).toInt64 &&& (63 : Int64))) &&& (1 : Int64)) = (0 : Int64) then nI 26 else (-1 : Int32)) := by rfl
theorem lds_19_0 (rb : Int64) : fX6_leads rb (nI 19) (nI 0) = (if ((rb >>> ((nI 13).toInt64 &&& (63 : Int64))) &&& (1 : Int64)) = (0 : Int64) then nI 13 else (-1 : Int32)) := by rfl
theorem lds_19_1 (rb : Int64) : fX6_leads rb (nI 19) (nI 1) = (if ((rb >>> ((nI 20).toInt64 &&& (63 : Int64))) &&& (1 : Int64)) = (0 : Int64) then nI 20 else (-1 : Int32)) := by rfl
theorem lds_19_2 (rb : Int64) : fX6_leads rb (nI 19) (nI 2) = (if ((rb >>> ((nI 25).toInt64 &&& (63 : Int64))) &&& (1 : Int64)) = (0 : Int64) then nI 25 else (-1 : Int32)) := by rfl
theorem lds_19_3 (rb : Int64) : fX6_leads rb (nI 19) (nI 3) = (if ((rb >>> ((nI 18).toInt64 &&& (63 : Int64))) &&& (1 : Int64)) = (0 : Int64) then nI 18 else (-1 : Int32)) := by rfl
theorem lds_19_4 (rb : Int64) : fX6_leads rb (nI 19) (nI 4) = (if ((rb >>> ((nI 27).toInt64 &&& (63 : Int64))) &&& (1 : Int64)) = (0 : Int64) then nI 27 else (-1 : Int32)) := by rfl
theorem lds_20_0 (rb : Int64) : fX6_leads rb (nI 20) (nI 0) = (if ((rb >>> ((nI 14).toInt64 &&& (63 : Int64))) &&& (1 : Int64)) = (0 : Int64) then nI 14 else (-1 : Int32)) := by rfl
theorem lds_20_1 (rb : Int64) : fX6_leads rb (nI 20) (nI 1) = (if ((rb >>> ((nI 21).toInt64 &&& (63 : Int64))) &&& (1 : Int64)) = (0 : Int64) then nI 21 else (-1 : Int32)) := by rfl
theorem lds_20_2 (rb : Int64) : fX6_leads rb (nI 20) (nI 2) = (if ((rb >>> ((nI 26).toInt64 &&& (63 : Int64))) &&& (1 : Int64)) = (0 : Int64) then nI 26 else (-1 : Int32)) := by rfl
theorem lds_20_3 (rb : Int64) : fX6_leads rb (nI 20) (nI 3) = (if ((rb >>> ((nI 19).toInt64 &&& (63 : Int64))) &&& (1 : Int64)) = (0 : Int64) then nI 19 else (-1 : Int32)) := by rfl
theorem lds_20_4 (rb : Int64) : fX6_leads rb (nI 20) (nI 4) = (if ((rb >>> ((nI 28).toInt64 &&& (63 : Int64))) &&& (1 : Int64)) = (0 : Int64) then nI 28 else (-1 : Int32)) := by rfl
theorem lds_21_0 (rb : Int64) : fX6_leads rb (nI 21) (nI 0) = (if ((rb >>> ((nI 15).toInt64 &&& (63 : Int64))) &&& (1 : Int64)) = (0 : Int64) then nI 15 else (-1 : Int32)) := by rfl
theorem lds_21_1 (rb : Int64) : fX6_leads rb (nI 21) (nI 1) = (if ((rb >>> ((nI 22).toInt64 &&& (63 : Int64))) &&& (1 : Int64)) = (0 : Int64) then nI 22 else (-1 : Int32)) := by rfl
theorem lds_21_2 (rb : Int64) : fX6_leads rb (nI 21) (nI 2) = (if ((rb >>> ((nI 27).toInt64 &&& (63 : Int64))) &&& (1 : Int64)) = (0 : Int64) then nI 27 else (-1 : Int32)) := by rfl
theorem lds_21_3 (rb : Int64) : fX6_leads rb (nI 21) (nI 3) = (if ((rb >>> ((nI 20).toInt64 &&& (63 : Int64))) &&& (1 : Int64)) = (0 : Int64) then nI 20 else (-1 : Int32)) := by rfl
theorem lds_21_4 (rb : Int64) : fX6_leads rb (nI 21) (nI 4) = (if ((rb >>> ((nI 29).toInt64 &&& (63 : Int64))) &&& (1 : Int64)) = (0 : Int64) then nI 29 else (-1 : Int32)) := by rfl
theorem lds_22_0 (rb : Int64) : fX6_leads rb (nI 22) (nI 0) = (if ((rb >>> ((nI 16).toInt64 &&& (63 : Int64))) &&& (1 : Int64)) = (0 : Int64) then nI 16 else (-1 : Int32)) := by rfl
theorem lds_22_1 (rb : Int64) : fX6_leads rb (nI 22) (nI 1) = (if ((rb >>> ((nI 23).toInt64 &&& (63 : Int64))) &&& (1 : Int64)) = (0 : Int64) then nI 23 else (-1 : Int32)) := by rfl
theorem lds_22_2 (rb : Int64) : fX6_leads rb (nI 22) (nI 2) = (if ((rb >>> ((nI 28).toInt64 &&& (63 : Int64))) &&& (1 : Int64)) = (0 : Int64) then nI 28 else (-1 : Int32)) := by rfl
theorem lds_22_3 (rb : Int64) : fX6_leads rb (nI 22) (nI 3) = (if ((rb >>> ((nI 21).toInt64 &&& (63 : Int64))) &&& (1 : Int64)) = (0 : Int64) then nI 21 else (-1 : Int32)) := by rfl
theorem lds_22_4 (rb : Int64) : fX6_leads rb (nI 22) (nI 4) = (-1 : Int32) := by rfl
theorem lds_23_0 (rb : Int64) : fX6_leads rb (nI 23) (nI 0) = (if ((rb >>> ((nI 17).toInt64 &&& (63 : Int64))) &&& (1 : Int64)) = (0 : Int64) then nI 17 else (-1 : Int32)) := by rfl
theorem lds_23_1 (rb : Int64) : fX6_leads rb (nI 23) (nI 1) = (-1 : Int32) := by rfl
theorem lds_23_2 (rb : Int64) : fX6_leads rb (nI 23) (nI 2) = (if ((rb >>> ((nI 29).toInt64 &&& (63 : Int64))) &&& (1 : Int64)) = (0 : Int64) then nI 29 else (-1 : Int32)) := by rfl
theorem lds_23_3 (rb : Int64) : fX6_leads rb (nI 23) (nI 3) = (if ((rb >>> ((nI 22).toInt64 &&& (63 : Int64))) &&& (1 : Int64)) = (0 : Int64) then nI 22 else (-1 : Int32)) := by rfl
theorem lds_23_4 (rb : Int64) : fX6_leads rb (nI 23) (nI 4) = (-1 : Int32) := by rfl
theorem lds_24_0 (rb : Int64) : fX6_leads rb (nI 24) (nI 0) = (if ((rb >>> ((nI 18).toInt64 &&& (63 : Int64))) &&& (1 : Int64)) = (0 : Int64) then nI 18 else (-1 : Int32)) := by rfl
theorem lds_24_1 (rb : Int64) : fX6_leads rb (nI 24) (nI 1) = (if ((rb >>> ((nI 25).toInt64 &&& (63 : Int64))) &&& (1 : Int64)) = (0 : Int64) then nI 25 else (-1 : Int32)) := by rfl
theorem lds_24_2 (rb : Int64) : fX6_leads rb (nI 24) (nI 2) = (if ((rb >>> ((nI 30).toInt64 &&& (63 : Int64))) &&& (1 : Int64)) = (0 : Int64) then nI 30 else (-1 : Int32)) := by rfl
theorem lds_24_3 (rb : Int64) : fX6_leads rb (nI 24) (nI 3) = (-1 : Int32) := by rfl
theorem lds_24_4 (rb : Int64) : fX6_leads rb (nI 24) (nI 4) = (if ((rb >>> ((nI 32).toInt64 &&& (63 : Int64))) &&& (1 : Int64)) = (0 : Int64) then nI 32 else (-1 : Int32)) := by rfl
theorem lds_25_0 (rb : Int64) : fX6_leads rb (nI 25) (nI 0) = (if ((rb >>> ((nI 19).toInt64 &&& (63 : Int64))) &&& (1 : Int64)) = (0 : Int64) then nI 19 else (-1 : Int32)) := by rfl
theorem lds_25_1 (rb : Int64) : fX6_leads rb (nI 25) (nI 1) = (if ((rb >>> ((nI 26).toInt64 &&& (63 : Int64))) &&& (1 : Int64)) = (0 : Int64) then nI 26 else (-1 : Int32)) := by rfl
theorem lds_25_2 (rb : Int64) : fX6_leads rb (nI 25) (nI 2) = (if ((rb >>> ((nI 31).toInt64 &&& (63 : Int64))) &&& (1 : Int64)) = (0 : Int64) then nI 31 else (-1 : Int32)) := by rfl
theorem lds_25_3 (rb : Int64) : fX6_leads rb (nI 25) (nI 3) = (if ((rb >>> ((nI 24).toInt64 &&& (63 : Int64))) &&& (1 : Int64)) = (0 : Int64) then nI 24 else (-1 : Int32)) := by rfl
theorem lds_25_4 (rb : Int64) : fX6_leads rb (nI 25) (nI 4) = (if ((rb >>> ((nI 33).toInt64 &&& (63 : Int64))) &&& (1 : Int64)) = (0 : Int64) then nI 33 else (-1 : Int32)) := by rfl
theorem lds_26_0 (rb : Int64) : fX6_leads rb (nI 26) (nI 0) = (if ((rb >>> ((nI 20).toInt64 &&& (63 : Int64))) &&& (1 : Int64)) = (0 : Int64) then nI 20 else (-1 : Int32)) := by rfl
theorem lds_26_1 (rb : Int64) : fX6_leads rb (nI 26) (nI 1) = (if ((rb >>> ((nI 27).toInt64 &&& (63 : Int64))) &&& (1 : Int64)) = (0 : Int64) then nI 27 else (-1 : Int32)) := by rfl
theorem lds_26_2 (rb : Int64) : fX6_leads rb (nI 26) (nI 2) = (if ((rb >>> ((nI 32).toInt64 &&& (63 : Int64))) &&& (1 : Int64)) = (0 : Int64) then nI 32 else (-1 : Int32)) := by rfl
theorem lds_26_3 (rb : Int64) : fX6_leads rb (nI 26) (nI 3) = (if ((rb >>> ((nI 25).toInt64 &&& (63 : Int64))) &&& (1 : Int64)) = (0 : Int64) then nI 25 else (-1 : Int32)) := by rfl
theorem lds_26_4 (rb : Int64) : fX6_leads rb (nI 26) (nI 4) = (if ((rb >>> ((nI 34).toInt64 &&& (63 : Int64))) &&& (1 : Int64)) = (0 : Int64) then nI 34 else (-1 : Int32)) := by rfl
theorem lds_27_0 (rb : Int64) : fX6_leads rb (nI 27) (nI 0) = (if ((rb >>> ((nI 21).toInt64 &&& (63 : Int64))) &&& (1 : Int64)) = (0 : Int64) then nI 21 else (-1 : Int32)) := by rfl
theorem lds_27_1 (rb : Int64) : fX6_leads rb (nI 27) (nI 1) = (if ((rb >>> ((nI 28).toInt64 &&& (63 : Int64))) &&& (1 : Int64)) = (0 : Int64) then nI 28 else (-1 : Int32)) := by rfl
theorem lds_27_2 (rb : Int64) : fX6_leads rb (nI 27) (nI 2) = (if ((rb >>> ((nI 33).toInt64 &&& (63 : Int64))) &&& (1 : Int64)) = (0 : Int64) then nI 33 else (-1 : Int32)) := by rfl
theorem lds_27_3 (rb : Int64) : fX6_leads rb (nI 27) (nI 3) = (if ((rb >>> ((nI 26).toInt64 &&& (63 : Int64))) &&& (1 : Int64)) = (0 : Int64) then nI 26 else (-1 : Int32)) := by rfl
theorem lds_27_4 (rb : Int64) : fX6_leads rb (nI 27) (nI 4) = (if ((rb >>> ((nI 35).toInt64 &&& (63 : Int64))) &&& (1 : Int64)) = (0 : Int64) then nI 35 else (-1 : Int32)) := by rfl
theorem lds_28_0 (rb : Int64) : fX6_leads rb (nI 28) (nI 0) = (if ((rb >>> ((nI 22).toInt64 &&& (63 : Int64))) &&& (1 : Int64)) = (0 : Int64) then nI 22 else (-1 : Int32)) := by rfl
theorem lds_28_1 (rb : Int64) : fX6_leads rb (nI 28) (nI 1) = (if ((rb >>> ((nI 29).toInt64 &&& (63 : Int64))) &&& (1 : Int64)) = (0 : Int64) then nI 29 else (-1 : Int32)) := by rfl
theorem lds_28_2 (rb : Int64) : fX6_leads rb (nI 28) (nI 2) = (if ((rb >>> ((nI 34).toInt64 &&& (63 : Int64))) &&& (1 : Int64)) = (0 : Int64) then nI 34 else (-1 : Int32)) := by rfl
theorem lds_28_3 (rb : Int64) : fX6_leads rb (nI 28) (nI 3) = (if ((rb >>> ((nI 27).toInt64 &&& (63 : Int64))) &&& (1 : Int64)) = (0 : Int64) then nI 27 else (-1 : Int32)) := by rfl
theorem lds_28_4 (rb : Int64) : fX6_leads rb (nI 28) (nI 4) = (-1 : Int32) := by rfl
theorem lds_29_0 (rb : Int64) : fX6_leads rb (nI 29) (nI 0) = (if ((rb >>> ((nI 23).toInt64 &&& (63 : Int64))) &&& (1 : Int64)) = (0 : Int64) then nI 23 else (-1 : Int32)) := by rfl
theorem lds_29_1 (rb : Int64) : fX6_leads rb (nI 29) (nI 1) = (-1 : Int32) := by rfl
theorem lds_29_2 (rb : Int64) : fX6_leads rb (nI 29) (nI 2) = (if ((rb >>> ((nI 35).toInt64 &&& (63 : Int64))) &&& (1 : Int64)) = (0 : Int64) then nI 35 else (-1 : Int32)) := by rfl
theorem lds_29_3 (rb : Int64) : fX6_leads rb (nI 29) (nI 3) = (if ((rb >>> ((nI 28).toInt64 &&& (63 : Int64))) &&& (1 : Int64)) = (0 : Int64) then nI 28 else (-1 : Int32)) := by rfl
theorem lds_29_4 (rb : Int64) : fX6_leads rb (nI 29) (nI 4) = (-1 : Int32) := by rfl
theorem lds_30_0 (rb : Int64) : fX6_leads rb (nI 30) (nI 0) = (if ((rb >>> ((nI 24).toInt64 &&& (63 : Int64))) &&& (1 : Int64)) = (0 : Int64) then nI 24 else (-1 : Int32)) := by rfl
theorem lds_30_1 (rb : Int64) : fX6_leads rb (nI 30) (nI 1) = (if ((rb >>> ((nI 31).toInt64 &&& (63 : Int64))) &&& (1 : Int64)) = (0 : Int64) then nI 31 else (-1 : Int32)) := by rfl
theorem lds_30_2 (rb : Int64) : fX6_leads rb (nI 30) (nI 2) = (-1 : Int32) := by rfl
theorem lds_30_3 (rb : Int64) : fX6_leads rb (nI 30) (nI 3) = (-1 : Int32) := by rfl
theorem lds_30_4 (rb : Int64) : fX6_leads rb (nI 30) (nI 4) = (-1 : Int32) := by rfl
theorem lds_31_0 (rb : Int64) : fX6_leads rb (nI 31) (nI 0) = (if ((rb >>> ((nI 25).toInt64 &&& (63 : Int64))) &&& (1 : Int64)) = (0 : Int64) then nI 25 else (-1 : Int32)) := by rfl
theorem lds_31_1 (rb : Int64) : fX6_leads rb (nI 31) (nI 1) = (if ((rb >>> ((nI 32).toInt64 &&& (63 : Int64))) &&& (1 : Int64)) = (0 : Int64) then nI 32 else (-1 : Int32)) := by rfl
theorem lds_31_2 (rb : Int64) : fX6_leads rb (nI 31) (nI 2) = (-1 : Int32) := by rfl
theorem lds_31_3 (rb : Int64) : fX6_leads rb (nI 31) (nI 3) = (if ((rb >>> ((nI 30).toInt64 &&& (63 : Int64))) &&& (1 : Int64)) = (0 : Int64) then nI 30 else (-1 : Int32)) := by rfl
theorem lds_31_4 (rb : Int64) : fX6_leads rb (nI 31) (nI 4) = (-1 : Int32) := by rfl
theorem lds_32_0 (rb : Int64) : fX6_leads rb (nI 32) (nI 0) = (if ((rb >>> ((nI 26).toInt64 &&& (63 : Int64))) &&& (1 : Int64)) = (0 : Int64) then nI 26 else (-1 : Int32)) := by rfl
theorem lds_32_1 (rb : Int64) : fX6_leads rb (nI 32) (nI 1) = (if ((rb >>> ((nI 33).toInt64 &&& (63 : Int64))) &&& (1 : Int64)) = (0 : Int64) then nI 33 else (-1 : Int32)) := by rfl
theorem lds_32_2 (rb : Int64) : fX6_leads rb (nI 32) (nI 2) = (-1 : Int32) := by rfl
theorem lds_32_3 (rb : Int64) : fX6_leads rb (nI 32) (nI 3) = (if ((rb >>> ((nI 31).toInt64 &&& (63 : Int64))) &&& (1 : Int64)) = (0 : Int64) then nI 31 else (-1 : Int32)) := by rfl
theorem lds_32_4 (rb : Int64) : fX6_leads rb (nI 32) (nI 4) = (-1 : Int32) := by rfl
theorem lds_33_0 (rb : Int64) : fX6_leads rb (nI 33) (nI 0) = (if ((rb >>> ((nI 27).toInt64 &&& (63 : Int64))) &&& (1 : Int64)) = (0 : Int64) then nI 27 else (-1 : Int32)) := by rfl
theorem lds_33_1 (rb : Int64) : fX6_leads rb (nI 33) (nI 1) = (if ((rb >>> ((nI 34).toInt64 &&& (63 : Int64))) &&& (1 : Int64)) = (0 : Int64) then nI 34 else (-1 : Int32)) := by rfl
theorem lds_33_2 (rb : Int64) : fX6_leads rb (nI 33) (nI 2) = (-1 : Int32) := by rfl
theorem lds_33_3 (rb : Int64) : fX6_leads rb (nI 33) (nI 3) = (if ((rb >>> ((nI 32).toInt64 &&& (63 : Int64))) &&& (1 : Int64)) = (0 : Int64) then nI 32 else (-1 : Int32)) := by rfl
theorem lds_33_4 (rb : Int64) : fX6_leads rb (nI 33) (nI 4) = (-1 : Int32) := by rfl
theorem lds_34_0 (rb : Int64) : fX6_leads rb (nI 34) (nI 0) = (if ((rb >>> ((nI 28).toInt64 &&& (63 : Int64))) &&& (1 : Int64)) = (0 : Int64) then nI 28 else (-1 : Int32)) := by rfl
theorem lds_34_1 (rb : Int64) : fX6_leads rb (nI 34) (nI 1) = (if ((rb >>> ((nI 35).toInt64 &&& (63 : Int64))) &&& (1 : Int64)) = (0 : Int64) then nI 35 else (-1 : Int32)) := by rfl
theorem lds_34_2 (rb : Int64) : fX6_leads rb (nI 34) (nI 2) = (-1 : Int32) := by rfl
theorem lds_34_3 (rb : Int64) : fX6_leads rb (nI 34) (nI 3) = (if ((rb >>> ((nI 33).toInt64 &&& (63 : Int64))) &&& (1 : Int64)) = (0 : Int64) then nI 33 else (-1 : Int32)) := by rfl
theorem lds_34_4 (rb : Int64) : fX6_leads rb (nI 34) (nI 4) = (-1 : Int32) := by rfl
theorem lds_35_0 (rb : Int64) : fX6_leads rb (nI 35) (nI 0) = (if ((rb >>> ((nI 29).toInt64 &&& (63 : Int64))) &&& (1 : Int64)) = (0 : Int64) then nI 29 else (-1 : Int32)) := by rfl
theorem lds_35_1 (rb : Int64) : fX6_leads rb (nI 35) (nI 1) = (-1 : Int32) := by rfl
theorem lds_35_2 (rb : Int64) : fX6_leads rb (nI 35) (nI 2) = (-1 : Int32) := by rfl
theorem lds_35_3 (rb : Int64) : fX6_leads rb (nI 35) (nI 3) = (if ((rb >>> ((nI 34).toInt64 &&& (63 : Int64))) &&& (1 : Int64)) = (0 : Int64) then nI 34 else (-1 : Int32)) := by rfl
theorem lds_35_4 (rb : Int64) : fX6_leads rb (nI 35) (nI 4) = (-1 : Int32) := by rfl
def ldn (rb : Int64) (o : Option Nat) : Int32 := match o with
  | some g => if ((rb >>> ((nI g).toInt64 &&& (63 : Int64))) &&& (1 : Int64)) = (0 : Int64) then nI g else (-1 : Int32)
  | none => (-1 : Int32)
theorem lds_0 (rb : Int64) : ∀ j, j < 5 → fX6_leads rb (nI 0) (nI j) = ldn rb (tgt 0 j) := by
  intro j hj
  rcases (show j = 0 ∨ j = 1 ∨ j = 2 ∨ j = 3 ∨ j = 4 by omega) with rfl | rfl | rfl | rfl | rfl
  · exact lds_0_0 rb
  · exact lds_0_1 rb
  · exact lds_0_2 rb
  · exact lds_0_3 rb
  · exact lds_0_4 rb
theorem lds_1 (rb : Int64) : ∀ j, j < 5 → fX6_leads rb (nI 1) (nI j) = ldn rb (tgt 1 j) := by
  intro j hj
  rcases (show j = 0 ∨ j = 1 ∨ j = 2 ∨ j = 3 ∨ j = 4 by omega) with rfl | rfl | rfl | rfl | rfl
  · exact lds_1_0 rb
  · exact lds_1_1 rb
  · exact lds_1_2 rb
  · exact lds_1_3 rb
  · exact lds_1_4 rb
theorem lds_2 (rb : Int64) : ∀ j, j < 5 → fX6_leads rb (nI 2) (nI j) = ldn rb (tgt 2 j) := by
  intro j hj
  rcases (show j = 0 ∨ j = 1 ∨ j = 2 ∨ j = 3 ∨ j = 4 by omega) with rfl | rfl | rfl | rfl | rfl
  · exact lds_2_0 rb
  · exact lds_2_1 rb
  · exact lds_2_2 rb
  · exact lds_2_3 rb
  · exact lds_2_4 rb
theorem lds_3 (rb : Int64) : ∀ j, j < 5 → fX6_leads rb (nI 3) (nI j) = ldn rb (tgt 3 j) := by
  intro j hj
  rcases (show j = 0 ∨ j = 1 ∨ j = 2 ∨ j = 3 ∨ j = 4 by omega) with rfl | rfl | rfl | rfl | rfl
  · exact lds_3_0 rb
  · exact lds_3_1 rb
  · exact lds_3_2 rb
  · exact lds_3_3 rb
  · exact lds_3_4 rb
theorem lds_4 (rb : Int64) : ∀ j, j < 5 → fX6_leads rb (nI 4) (nI j) = ldn rb (tgt 4 j) := by
  intro j hj
  rcases (show j = 0 ∨ j = 1 ∨ j = 2 ∨ j = 3 ∨ j = 4 by omega) with rfl | rfl | rfl | rfl | rfl
  · exact lds_4_0 rb
  · exact lds_4_1 rb
  · exact lds_4_2 rb
  · exact lds_4_3 rb
  · exact lds_4_4 rb
theorem lds_5 (rb : Int64) : ∀ j, j < 5 → fX6_leads rb (nI 5) (nI j) = ldn rb (tgt 5 j) := by
  intro j hj
  rcases (show j = 0 ∨ j = 1 ∨ j = 2 ∨ j = 3 ∨ j = 4 by omega) with rfl | rfl | rfl | rfl | rfl
  · exact lds_5_0 rb
  · exact lds_5_1 rb
  · exact lds_5_2 rb
  · exact lds_5_3 rb
  · exact lds_5_4 rb
theorem lds_6 (rb : Int64) : ∀ j, j < 5 → fX6_leads rb (nI 6) (nI j) = ldn rb (tgt 6 j) := by
  intro j hj
  rcases (show j = 0 ∨ j = 1 ∨ j = 2 ∨ j = 3 ∨ j = 4 by omega) with rfl | rfl | rfl | rfl | rfl
  · exact lds_6_0 rb
  · exact lds_6_1 rb
  · exact lds_6_2 rb
  · exact lds_6_3 rb
  · exact lds_6_4 rb
theorem lds_7 (rb : Int64) : ∀ j, j < 5 → fX6_leads rb (nI 7) (nI j) = ldn rb (tgt 7 j) := by
  intro j hj
  rcases (show j = 0 ∨ j = 1 ∨ j = 2 ∨ j = 3 ∨ j = 4 by omega) with rfl | rfl | rfl | rfl | rfl
  · exact lds_7_0 rb
  · exact lds_7_1 rb
  · exact lds_7_2 rb
  · exact lds_7_3 rb
  · exact lds_7_4 rb
theorem lds_8 (rb : Int64) : ∀ j, j < 5 → fX6_leads rb (nI 8) (nI j) = ldn rb (tgt 8 j) := by
  intro j hj
  rcases (show j = 0 ∨ j = 1 ∨ j = 2 ∨ j = 3 ∨ j = 4 by omega) with rfl | rfl | rfl | rfl | rfl
  · exact lds_8_0 rb
  · exact lds_8_1 rb
  · exact lds_8_2 rb
  · exact lds_8_3 rb
  · exact lds_8_4 rb
theorem lds_9 (rb : Int64) : ∀ j, j < 5 → fX6_leads rb (nI 9) (nI j) = ldn rb (tgt 9 j) := by
  intro j hj
  rcases (show j = 0 ∨ j = 1 ∨ j = 2 ∨ j = 3 ∨ j = 4 by omega) with rfl | rfl | rfl | rfl | rfl
  · exact lds_9_0 rb
  · exact lds_9_1 rb
  · exact lds_9_2 rb
  · exact lds_9_3 rb
  · exact lds_9_4 rb
theorem lds_10 (rb : Int64) : ∀ j, j < 5 → fX6_leads rb (nI 10) (nI j) = ldn rb (tgt 10 j) := by
  intro j hj
  rcases (show j = 0 ∨ j = 1 ∨ j = 2 ∨ j = 3 ∨ j = 4 by omega) with rfl | rfl | rfl | rfl | rfl
  · exact lds_10_0 rb
  · exact lds_10_1 rb
  · exact lds_10_2 rb
  · exact lds_10_3 rb
  · exact lds_10_4 rb
theorem lds_11 (rb : Int64) : ∀ j, j < 5 → fX6_leads rb (nI 11) (nI j) = ldn rb (tgt 11 j) := by
  intro j hj
  rcases (show j = 0 ∨ j = 1 ∨ j = 2 ∨ j = 3 ∨ j = 4 by omega) with rfl | rfl | rfl | rfl | rfl
  · exact lds_11_0 rb
  · exact lds_11_1 rb
  · exact lds_11_2 rb
  · exact lds_11_3 rb
  · exact lds_11_4 rb
theorem lds_12 (rb : Int64) : ∀ j, j < 5 → fX6_leads rb (nI 12) (nI j) = ldn rb (tgt 12 j) := by
  intro j hj
  rcases (show j = 0 ∨ j = 1 ∨ j = 2 ∨ j = 3 ∨ j = 4 by omega) with rfl | rfl | rfl | rfl | rfl
  · exact lds_12_0 rb
  · exact lds_12_1 rb
  · exact lds_12_2 rb
  · exact lds_12_3 rb
  · exact lds_12_4 rb
theorem lds_13 (rb : Int64) : ∀ j, j < 5 → fX6_leads rb (nI 13) (nI j) = ldn rb (tgt 13 j) := by
  intro j hj
  rcases (show j = 0 ∨ j = 1 ∨ j = 2 ∨ j = 3 ∨ j = 4 by omega) with rfl | rfl | rfl | rfl | rfl
  · exact lds_13_0 rb
  · exact lds_13_1 rb
  · exact lds_13_2 rb
  · exact lds_13_3 rb
  · exact lds_13_4 rb
theorem lds_14 (rb : Int64) : ∀ j, j < 5 → fX6_leads rb (nI 14) (nI j) = ldn rb (tgt 14 j) := by
  intro j hj
  rcases (show j = 0 ∨ j = 1 ∨ j = 2 ∨ j = 3 ∨ j = 4 by omega) with rfl | rfl | rfl | rfl | rfl
  · exact lds_14_0 rb
  · exact lds_14_1 rb
  · exact lds_14_2 rb
  · exact lds_14_3 rb
  · exact lds_14_4 rb
theorem lds_15 (rb : Int64) : ∀ j, j < 5 → fX6_leads rb (nI 15) (nI j) = ldn rb (tgt 15 j) := by
  intro j hj
  rcases (show j = 0 ∨ j = 1 ∨ j = 2 ∨ j = 3 ∨ j = 4 by omega) with rfl | rfl | rfl | rfl | rfl
  · exact lds_15_0 rb
  · exact lds_15_1 rb
  · exact lds_15_2 rb
  · exact lds_15_3 rb
  · exact lds_15_4 rb
theorem lds_16 (rb : Int64) : ∀ j, j < 5 → fX6_leads rb (nI 16) (nI j) = ldn rb (tgt 16 j) := by
  intro j hj
  rcases (show j = 0 ∨ j = 1 ∨ j = 2 ∨ j = 3 ∨ j = 4 by omega) with rfl | rfl | rfl | rfl | rfl
  · exact lds_16_0 rb
  · exact lds_16_1 rb
  · exact lds_16_2 rb
  · exact lds_16_3 rb
  · exact lds_16_4 rb
theorem lds_17 (rb : Int64) : ∀ j, j < 5 → fX6_leads rb (nI 17) (nI j) = ldn rb (tgt 17 j) := by
  intro j hj
  rcases (show j = 0 ∨ j = 1 ∨ j = 2 ∨ j = 3 ∨ j = 4 by omega) with rfl | rfl | rfl | rfl | rfl
  · exact lds_17_0 rb
  · exact lds_17_1 rb
  · exact lds_17_2 rb
  · exact lds_17_3 rb
  · exact lds_17_4 rb
theorem lds_18 (rb : Int64) : ∀ j, j < 5 → fX6_leads rb (nI 18) (nI j) = ldn rb (tgt 18 j) := by
  intro j hj
  rcases (show j = 0 ∨ j = 1 ∨ j = 2 ∨ j = 3 ∨ j = 4 by omega) with rfl | rfl | rfl | rfl | rfl
  · exact lds_18_0 rb
  · exact lds_18_1 rb
  · exact lds_18_2 rb
  · exact lds_18_3 rb
  · exact lds_18_4 rb
theorem lds_19 (rb : Int64) : ∀ j, j < 5 → fX6_leads rb (nI 19) (nI j) = ldn rb (tgt 19 j) := by
  intro j hj
  rcases (show j = 0 ∨ j = 1 ∨ j = 2 ∨ j = 3 ∨ j = 4 by omega) with rfl | rfl | rfl | rfl | rfl
  · exact lds_19_0 rb
  · exact lds_19_1 rb
  · exact lds_19_2 rb
  · exact lds_19_3 rb
  · exact lds_19_4 rb
theorem lds_20 (rb : Int64) : ∀ j, j < 5 → fX6_leads rb (nI 20) (nI j) = ldn rb (tgt 20 j) := by
  intro j hj
  rcases (show j = 0 ∨ j = 1 ∨ j = 2 ∨ j = 3 ∨ j = 4 by omega) with rfl | rfl | rfl | rfl | rfl
  · exact lds_20_0 rb
  · exact lds_20_1 rb
  · exact lds_20_2 rb
  · exact lds_20_3 rb
  · exact lds_20_4 rb
theorem lds_21 (rb : Int64) : ∀ j, j < 5 → fX6_leads rb (nI 21) (nI j) = ldn rb (tgt 21 j) := by
  intro j hj
  rcases (show j = 0 ∨ j = 1 ∨ j = 2 ∨ j = 3 ∨ j = 4 by omega) with rfl | rfl | rfl | rfl | rfl
  · exact lds_21_0 rb
  · exact lds_21_1 rb
  · exact lds_21_2 rb
  · exact lds_21_3 rb
  · exact lds_21_4 rb
theorem lds_22 (rb : Int64) : ∀ j, j < 5 → fX6_leads rb (nI 22) (nI j) = ldn rb (tgt 22 j) := by
  intro j hj
  rcases (show j = 0 ∨ j = 1 ∨ j = 2 ∨ j = 3 ∨ j = 4 by omega) with rfl | rfl | rfl | rfl | rfl
  · exact lds_22_0 rb
  · exact lds_22_1 rb
  · exact lds_22_2 rb
  · exact lds_22_3 rb
  · exact lds_22_4 rb
theorem lds_23 (rb : Int64) : ∀ j, j < 5 → fX6_leads rb (nI 23) (nI j) = ldn rb (tgt 23 j) := by
  intro j hj
  rcases (show j = 0 ∨ j = 1 ∨ j = 2 ∨ j = 3 ∨ j = 4 by omega) with rfl | rfl | rfl | rfl | rfl
  · exact lds_23_0 rb
  · exact lds_23_1 rb
  · exact lds_23_2 rb
  · exact lds_23_3 rb
  · exact lds_23_4 rb
theorem lds_24 (rb : Int64) : ∀ j, j < 5 → fX6_leads rb (nI 24) (nI j) = ldn rb (tgt 24 j) := by
  intro j hj
  rcases (show j = 0 ∨ j = 1 ∨ j = 2 ∨ j = 3 ∨ j = 4 by omega) with rfl | rfl | rfl | rfl | rfl
  · exact lds_24_0 rb
  · exact lds_24_1 rb
  · exact lds_24_2 rb
  · exact lds_24_3 rb
  · exact lds_24_4 rb
theorem lds_25 (rb : Int64) : ∀ j, j < 5 → fX6_leads rb (nI 25) (nI j) = ldn rb (tgt 25 j) := by
  intro j hj
  rcases (show j = 0 ∨ j = 1 ∨ j = 2 ∨ j = 3 ∨ j = 4 by omega) with rfl | rfl | rfl | rfl | rfl
  · exact lds_25_0 rb
  · exact lds_25_1 rb
  · exact lds_25_2 rb
  · exact lds_25_3 rb
  · exact lds_25_4 rb
theorem lds_26 (rb : Int64) : ∀ j, j < 5 → fX6_leads rb (nI 26) (nI j) = ldn rb (tgt 26 j) := by
  intro j hj
  rcases (show j = 0 ∨ j = 1 ∨ j = 2 ∨ j = 3 ∨ j = 4 by omega) with rfl | rfl | rfl | rfl | rfl
  · exact lds_26_0 rb
  · exact lds_26_1 rb
  · exact lds_26_2 rb
  · exact lds_26_3 rb
  · exact lds_26_4 rb
theorem lds_27 (rb : Int64) : ∀ j, j < 5 → fX6_leads rb (nI 27) (nI j) = ldn rb (tgt 27 j) := by
  intro j hj
  rcases (show j = 0 ∨ j = 1 ∨ j = 2 ∨ j = 3 ∨ j = 4 by omega) with rfl | rfl | rfl | rfl | rfl
  · exact lds_27_0 rb
  · exact lds_27_1 rb
  · exact lds_27_2 rb
  · exact lds_27_3 rb
  · exact lds_27_4 rb
theorem lds_28 (rb : Int64) : ∀ j, j < 5 → fX6_leads rb (nI 28) (nI j) = ldn rb (tgt 28 j) := by
  intro j hj
  rcases (show j = 0 ∨ j = 1 ∨ j = 2 ∨ j = 3 ∨ j = 4 by omega) with rfl | rfl | rfl | rfl | rfl
  · exact lds_28_0 rb
  · exact lds_28_1 rb
  · exact lds_28_2 rb
  · exact lds_28_3 rb
  · exact lds_28_4 rb
theorem lds_29 (rb : Int64) : ∀ j, j < 5 → fX6_leads rb (nI 29) (nI j) = ldn rb (tgt 29 j) := by
  intro j hj
  rcases (show j = 0 ∨ j = 1 ∨ j = 2 ∨ j = 3 ∨ j = 4 by omega) with rfl | rfl | rfl | rfl | rfl
  · exact lds_29_0 rb
  · exact lds_29_1 rb
  · exact lds_29_2 rb
  · exact lds_29_3 rb
  · exact lds_29_4 rb
theorem lds_30 (rb : Int64) : ∀ j, j < 5 → fX6_leads rb (nI 30) (nI j) = ldn rb (tgt 30 j) := by
  intro j hj
  rcases (show j = 0 ∨ j = 1 ∨ j = 2 ∨ j = 3 ∨ j = 4 by omega) with rfl | rfl | rfl | rfl | rfl
  · exact lds_30_0 rb
  · exact lds_30_1 rb
  · exact lds_30_2 rb
  · exact lds_30_3 rb
  · exact lds_30_4 rb
theorem lds_31 (rb : Int64) : ∀ j, j < 5 → fX6_leads rb (nI 31) (nI j) = ldn rb (tgt 31 j) := by
  intro j hj
  rcases (show j = 0 ∨ j = 1 ∨ j = 2 ∨ j = 3 ∨ j = 4 by omega) with rfl | rfl | rfl | rfl | rfl
  · exact lds_31_0 rb
  · exact lds_31_1 rb
  · exact lds_31_2 rb
  · exact lds_31_3 rb
  · exact lds_31_4 rb
theorem lds_32 (rb : Int64) : ∀ j, j < 5 → fX6_leads rb (nI 32) (nI j) = ldn rb (tgt 32 j) := by
  intro j hj
  rcases (show j = 0 ∨ j = 1 ∨ j = 2 ∨ j = 3 ∨ j = 4 by omega) with rfl | rfl | rfl | rfl | rfl
  · exact lds_32_0 rb
  · exact lds_32_1 rb
  · exact lds_32_2 rb
  · exact lds_32_3 rb
  · exact lds_32_4 rb
theorem lds_33 (rb : Int64) : ∀ j, j < 5 → fX6_leads rb (nI 33) (nI j) = ldn rb (tgt 33 j) := by
  intro j hj
  rcases (show j = 0 ∨ j = 1 ∨ j = 2 ∨ j = 3 ∨ j = 4 by omega) with rfl | rfl | rfl | rfl | rfl
  · exact lds_33_0 rb
  · exact lds_33_1 rb
  · exact lds_33_2 rb
  · exact lds_33_3 rb
  · exact lds_33_4 rb
theorem lds_34 (rb : Int64) : ∀ j, j < 5 → fX6_leads rb (nI 34) (nI j) = ldn rb (tgt 34 j) := by
  intro j hj
  rcases (show j = 0 ∨ j = 1 ∨ j = 2 ∨ j = 3 ∨ j = 4 by omega) with rfl | rfl | rfl | rfl | rfl
  · exact lds_34_0 rb
  · exact lds_34_1 rb
  · exact lds_34_2 rb
  · exact lds_34_3 rb
  · exact lds_34_4 rb
theorem lds_35 (rb : Int64) : ∀ j, j < 5 → fX6_leads rb (nI 35) (nI j) = ldn rb (tgt 35 j) := by
  intro j hj
  rcases (show j = 0 ∨ j = 1 ∨ j = 2 ∨ j = 3 ∨ j = 4 by omega) with rfl | rfl | rfl | rfl | rfl
  · exact lds_35_0 rb
  · exact lds_35_1 rb
  · exact lds_35_2 rb
  · exact lds_35_3 rb
  · exact lds_35_4 rb
theorem leads_tgt (rb : Int64) : ∀ c, c < 36 → ∀ j, j < 5 → fX6_leads rb (nI c) (nI j) = ldn rb (tgt c j) := by
  intro c hc
  rcases (show c = 0 ∨ c = 1 ∨ c = 2 ∨ c = 3 ∨ c = 4 ∨ c = 5 ∨ c = 6 ∨ c = 7 ∨ c = 8 ∨ c = 9 ∨ c = 10 ∨ c = 11 ∨ c = 12 ∨ c = 13 ∨ c = 14 ∨ c = 15 ∨ c = 16 ∨ c = 17 ∨ c = 18 ∨ c = 19 ∨ c = 20 ∨ c = 21 ∨ c = 22 ∨ c = 23 ∨ c = 24 ∨ c = 25 ∨ c = 26 ∨ c = 27 ∨ c = 28 ∨ c = 29 ∨ c = 30 ∨ c = 31 ∨ c = 32 ∨ c = 33 ∨ c = 34 ∨ c = 35 by omega) with rfl | rfl | rfl | rfl | rfl | rfl | rfl | rfl | rfl | rfl | rfl | rfl | rfl | rfl | rfl | rfl | rfl | rfl | rfl | rfl | rfl | rfl | rfl | rfl | rfl | rfl | rfl | rfl | rfl | rfl | rfl | rfl | rfl | rfl | rfl | rfl
  · exact lds_0 rb
  · exact lds_1 rb
  · exact lds_2 rb
  · exact lds_3 rb
  · exact lds_4 rb
  · exact lds_5 rb
  · exact lds_6 rb
  · exact lds_7 rb
  · exact lds_8 rb
  · exact lds_9 rb
  · exact lds_10 rb
  · exact lds_11 rb
  · exact lds_12 rb
  · exact lds_13 rb
  · exact lds_14 rb
  · exact lds_15 rb
  · exact lds_16 rb
  · exact lds_17 rb
  · exact lds_18 rb
  · exact lds_19 rb
  · exact lds_20 rb
  · exact lds_21 rb
  · exact lds_22 rb
  · exact lds_23 rb
  · exact lds_24 rb
  · exact lds_25 rb
  · exact lds_26 rb
  · exact lds_27 rb
  · exact lds_28 rb
  · exact lds_29 rb
  · exact lds_30 rb
  · exact lds_31 rb
  · exact lds_32 rb
  · exact lds_33 rb
  · exact lds_34 rb
  · exact lds_35 rb
theorem tgt_lt : ∀ c, c < 36 → ∀ j, j < 5 → ∀ t, tgt c j = some t → t < 36 := by
  have h : ∀ c, c < 36 → ∀ j, j < 5 → (tgt c j).all (fun t => decide (t < 36)) = true := by decide +kernel
  intro c hc j hj t ht
  have h2 := h c hc j hj
  rw [ht] at h2
  simpa using h2
/-- the cell that one comes to, if any -/
def ld (rb : Int64) (c j : Nat) : Option Nat := match tgt c j with
  | some t => if bt rb t = true then none else some t
  | none => none
theorem ld_some {rb : Int64} {c j t : Nat} : ld rb c j = some t ↔ tgt c j = some t ∧ bt rb t = false := by
  unfold ld
  cases h : tgt c j with
  | none => simp
  | some g =>
    by_cases hb : bt rb g = true
    · simp only [if_pos hb]
      constructor
      · intro q; cases q
      · intro q
        cases q.1
        rw [hb] at q
        exact absurd q.2 (by decide)
    · simp only [if_neg hb]
      constructor
      · intro q; cases q; exact ⟨rfl, by simpa using hb⟩
      · intro q; exact q.1
theorem ld_lt {rb : Int64} {c j t : Nat} (hc : c < 36) (hj : j < 5) (h : ld rb c j = some t) : t < 36 := tgt_lt c hc j hj t (ld_some.mp h).1
theorem leads_ld (rb : Int64) {c j : Nat} (hc : c < 36) (hj : j < 5) : fX6_leads rb (nI c) (nI j) = (match ld rb c j with | some t => nI t | none => (-1 : Int32)) := by
  rw [leads_tgt rb c hc j hj]
  unfold ldn ld
  cases h : tgt c j with
  | none => rfl
  | some g =>
    have hg := tgt_lt c hc j hj g h
    by_cases hb : bt rb g = true
    · simp only [if_pos hb]
      rw [if_neg (fun q => by rw [(bit_0 rb (by omega)).mp q] at hb; cases hb)]
    · simp only [if_neg hb]
      rw [if_pos ((bit_0 rb (by omega)).mpr (by simpa using hb))]
theorem leads_none {rb : Int64} {c j : Nat} (hc : c < 36) (hj : j < 5) : fX6_leads rb (nI c) (nI j) = (-1 : Int32) ↔ ld rb c j = none := by
  rw [leads_ld rb hc hj]
  cases h : ld rb c j with
  | none => simp
  | some t =>
    have ht := ld_lt hc hj h
    constructor
    · intro q
      have q2 := congrArg Int32.toInt q
      rw [show (match some t with | some t => nI t | none => (-1 : Int32)) = nI t from rfl, nI_toInt (by omega), show (-1 : Int32).toInt = -1 by decide] at q2
      omega
    · intro q; cases q
theorem leads_some {rb : Int64} {c j t : Nat} (hc : c < 36) (hj : j < 5) (h : ld rb c j = some t) : fX6_leads rb (nI c) (nI j) = nI t := by
  rw [leads_ld rb hc hj, h]
