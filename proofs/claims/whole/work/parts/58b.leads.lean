/-! where the model leads, cell by cell -/
theorem lds_0_0 (rb : Int64) : fX6_leads rb (nI 0) (nI 0) = (-1 : Int32) := by rfl
theorem lds_7_2 (rb : Int64) : fX6_leads rb (nI 7) (nI 2) = (if ((rb >>> ((nI 13).toInt64 &&& (63 : Int64))) &&& (1 : Int64)) = (0 : Int64) then nI 13 else (-1 : Int32)) := by rfl
theorem lds_7_3 (rb : Int64) : fX6_leads rb (nI 7) (nI 3) = (if ((rb >>> ((nI 6).toInt64 &&& (63 : Int64))) &&& (1 : Int64)) = (0 : Int64) then nI 6 else (-1 : Int32)) := by rfl
theorem lds_35_4 (rb : Int64) : fX6_leads rb (nI 35) (nI 4) = (-1 : Int32) := by rfl
theorem lds_13_4 (rb : Int64) : fX6_leads rb (nI 13) (nI 4) = (if ((rb >>> ((nI 21).toInt64 &&& (63 : Int64))) &&& (1 : Int64)) = (0 : Int64) then nI 21 else (-1 : Int32)) := by rfl
theorem lds_5_1 (rb : Int64) : fX6_leads rb (nI 5) (nI 1) = (-1 : Int32) := by rfl
