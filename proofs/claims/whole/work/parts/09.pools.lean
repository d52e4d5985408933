/-! WHAT THE POOLS MEAN -/
theorem f_TM_12 : px_Fd "TroubleMemory" 12 0 0 := ⟨_, _, _, rfl, by decide, "TroubleMemory", w_76, Or.inl rfl⟩
theorem fF_TM_12 : px_FpF "TroubleMemory" 12 0 0 (.object "java/util/ArrayList") := ⟨_, _, _, rfl, by decide, ⟨"TroubleMemory", w_76, Or.inl rfl⟩, rfl, rfl, rfl⟩
theorem f_TM_16 : px_Fd "TroubleMemory" 16 0 2 := ⟨_, _, _, rfl, by decide, "TroubleMemory", w_78, Or.inl rfl⟩
theorem fp_TM_16 : px_Fp "TroubleMemory" 16 0 2 (.int) := ⟨_, _, _, rfl, by decide, ⟨"TroubleMemory", w_78, Or.inl rfl⟩, rfl, rfl⟩
theorem f_TM_20 : px_Fd "TroubleMemory" 20 0 3 := ⟨_, _, _, rfl, by decide, "TroubleMemory", w_79, Or.inl rfl⟩
theorem fp_TM_20 : px_Fp "TroubleMemory" 20 0 3 (.boolean) := ⟨_, _, _, rfl, by decide, ⟨"TroubleMemory", w_79, Or.inl rfl⟩, rfl, rfl⟩
theorem f_TM_24 : px_Fd "TroubleMemory" 24 0 4 := ⟨_, _, _, rfl, by decide, "TroubleMemory", w_80, Or.inl rfl⟩
theorem fp_TM_24 : px_Fp "TroubleMemory" 24 0 4 (.int) := ⟨_, _, _, rfl, by decide, ⟨"TroubleMemory", w_80, Or.inl rfl⟩, rfl, rfl⟩
theorem f_TM_27 : px_Fd "TroubleMemory" 27 0 5 := ⟨_, _, _, rfl, by decide, "TroubleMemory", w_81, Or.inl rfl⟩
theorem fp_TM_27 : px_Fp "TroubleMemory" 27 0 5 (.int) := ⟨_, _, _, rfl, by decide, ⟨"TroubleMemory", w_81, Or.inl rfl⟩, rfl, rfl⟩
theorem f_TM_40 : px_Fd "TroubleMemory" 40 0 1 := ⟨_, _, _, rfl, by decide, "TroubleMemory", w_77, Or.inl rfl⟩
theorem fF_TM_40 : px_FpF "TroubleMemory" 40 0 1 (.object "TroubleMemory$Memory") := ⟨_, _, _, rfl, by decide, ⟨"TroubleMemory", w_77, Or.inl rfl⟩, rfl, rfl, rfl⟩
theorem f_TM_57 : px_Fd "TroubleMemory" 57 2 0 := ⟨_, _, _, rfl, by decide, "TroubleMemory$Code", w_131, Or.inl rfl⟩
theorem f_TM_79 : px_Fd "TroubleMemory" 79 2 4 := ⟨_, _, _, rfl, by decide, "TroubleMemory$Code", w_140, Or.inl rfl⟩
theorem f_TM_83 : px_Fd "TroubleMemory" 83 3 0 := ⟨_, _, _, rfl, by decide, "TroubleMemory$Standing", w_116, Or.inl rfl⟩
theorem fp_TM_83 : px_Fp "TroubleMemory" 83 3 0 (.int) := ⟨_, _, _, rfl, by decide, ⟨"TroubleMemory$Standing", w_116, Or.inl rfl⟩, rfl, rfl⟩
theorem f_TM_99 : px_Fd "TroubleMemory" 99 2 5 := ⟨_, _, _, rfl, by decide, "TroubleMemory$Code", w_142, Or.inl rfl⟩
theorem f_TM_106 : px_Fd "TroubleMemory" 106 2 8 := ⟨_, _, _, rfl, by decide, "TroubleMemory$Code", w_149, Or.inl rfl⟩
theorem fp_TM_106 : px_Fp "TroubleMemory" 106 2 8 (.object "TroubleMemory$Entry") := ⟨_, _, _, rfl, by decide, ⟨"TroubleMemory$Code", w_149, Or.inl rfl⟩, rfl, rfl⟩
theorem f_TM_110 : px_Fd "TroubleMemory" 110 4 1 := ⟨_, _, _, rfl, by decide, "TroubleMemory$Entry", w_358, Or.inl rfl⟩
theorem f_TM_116 : px_Fd "TroubleMemory" 116 4 2 := ⟨_, _, _, rfl, by decide, "TroubleMemory$Entry", w_360, Or.inl rfl⟩
theorem fp_TM_116 : px_Fp "TroubleMemory" 116 4 2 (.object "TroubleMemory$Snapshot") := ⟨_, _, _, rfl, by decide, ⟨"TroubleMemory$Entry", w_360, Or.inl rfl⟩, rfl, rfl⟩
theorem f_TM_137 : px_Fd "TroubleMemory" 137 2 7 := ⟨_, _, _, rfl, by decide, "TroubleMemory$Code", w_146, Or.inl rfl⟩
theorem fp_TM_137 : px_Fp "TroubleMemory" 137 2 7 (.object "TroubleMemory$Code") := ⟨_, _, _, rfl, by decide, ⟨"TroubleMemory$Code", w_146, Or.inl rfl⟩, rfl, rfl⟩
theorem f_TM_152 : px_Fd "TroubleMemory" 152 1 1 := ⟨_, _, _, rfl, by decide, "TroubleMemory$Memory", w_66, Or.inl rfl⟩
theorem f_TM_155 : px_Fd "TroubleMemory" 155 4 0 := ⟨_, _, _, rfl, by decide, "TroubleMemory$Entry", w_356, Or.inl rfl⟩
theorem f_TM_158 : px_Fd "TroubleMemory" 158 4 3 := ⟨_, _, _, rfl, by decide, "TroubleMemory$Entry", w_362, Or.inl rfl⟩
theorem fp_TM_158 : px_Fp "TroubleMemory" 158 4 3 (.int) := ⟨_, _, _, rfl, by decide, ⟨"TroubleMemory$Entry", w_362, Or.inl rfl⟩, rfl, rfl⟩
theorem f_TM_161 : px_Fd "TroubleMemory" 161 2 1 := ⟨_, _, _, rfl, by decide, "TroubleMemory$Code", w_134, Or.inl rfl⟩
theorem f_TM_164 : px_Fd "TroubleMemory" 164 2 6 := ⟨_, _, _, rfl, by decide, "TroubleMemory$Code", w_144, Or.inl rfl⟩
theorem fp_TM_164 : px_Fp "TroubleMemory" 164 2 6 (.int) := ⟨_, _, _, rfl, by decide, ⟨"TroubleMemory$Code", w_144, Or.inl rfl⟩, rfl, rfl⟩
theorem f_TM_167 : px_Fd "TroubleMemory" 167 1 2 := ⟨_, _, _, rfl, by decide, "TroubleMemory$Memory", w_68, Or.inl rfl⟩
theorem f_TM_170 : px_Fd "TroubleMemory" 170 3 2 := ⟨_, _, _, rfl, by decide, "TroubleMemory$Standing", w_119, Or.inl rfl⟩
theorem fp_TM_170 : px_Fp "TroubleMemory" 170 3 2 (.int) := ⟨_, _, _, rfl, by decide, ⟨"TroubleMemory$Standing", w_119, Or.inl rfl⟩, rfl, rfl⟩
theorem f_TM_194 : px_Fd "TroubleMemory" 194 2 2 := ⟨_, _, _, rfl, by decide, "TroubleMemory$Code", w_136, Or.inl rfl⟩
theorem f_Cd_12 : px_Fd "TroubleMemory$Code" 12 2 4 := ⟨_, _, _, rfl, by decide, "TroubleMemory$Code", w_138, Or.inl rfl⟩
theorem fF_Cd_12 : px_FpF "TroubleMemory$Code" 12 2 4 (.object "TroubleMemory$Standing") := ⟨_, _, _, rfl, by decide, ⟨"TroubleMemory$Code", w_138, Or.inl rfl⟩, rfl, rfl, rfl⟩
theorem f_Cd_18 : px_Fd "TroubleMemory$Code" 18 2 5 := ⟨_, _, _, rfl, by decide, "TroubleMemory$Code", w_141, Or.inl rfl⟩
theorem fF_Cd_18 : px_FpF "TroubleMemory$Code" 18 2 5 (.object "TroubleMemory$Standing") := ⟨_, _, _, rfl, by decide, ⟨"TroubleMemory$Code", w_141, Or.inl rfl⟩, rfl, rfl, rfl⟩
theorem f_Cd_21 : px_Fd "TroubleMemory$Code" 21 2 6 := ⟨_, _, _, rfl, by decide, "TroubleMemory$Code", w_143, Or.inl rfl⟩
theorem fp_Cd_21 : px_Fp "TroubleMemory$Code" 21 2 6 (.int) := ⟨_, _, _, rfl, by decide, ⟨"TroubleMemory$Code", w_143, Or.inl rfl⟩, rfl, rfl⟩
theorem f_Cd_25 : px_Fd "TroubleMemory$Code" 25 2 7 := ⟨_, _, _, rfl, by decide, "TroubleMemory$Code", w_145, Or.inl rfl⟩
theorem fp_Cd_25 : px_Fp "TroubleMemory$Code" 25 2 7 (.object "TroubleMemory$Code") := ⟨_, _, _, rfl, by decide, ⟨"TroubleMemory$Code", w_145, Or.inl rfl⟩, rfl, rfl⟩
theorem f_Cd_29 : px_Fd "TroubleMemory$Code" 29 2 8 := ⟨_, _, _, rfl, by decide, "TroubleMemory$Code", w_147, Or.inl rfl⟩
theorem fp_Cd_29 : px_Fp "TroubleMemory$Code" 29 2 8 (.object "TroubleMemory$Entry") := ⟨_, _, _, rfl, by decide, ⟨"TroubleMemory$Code", w_147, Or.inl rfl⟩, rfl, rfl⟩
theorem f_Cd_33 : px_Fd "TroubleMemory$Code" 33 2 0 := ⟨_, _, _, rfl, by decide, "TroubleMemory$Code", w_130, Or.inl rfl⟩
theorem fF_Cd_33 : px_FpF "TroubleMemory$Code" 33 2 0 (.int) := ⟨_, _, _, rfl, by decide, ⟨"TroubleMemory$Code", w_130, Or.inl rfl⟩, rfl, rfl, rfl⟩
theorem f_Cd_36 : px_Fd "TroubleMemory$Code" 36 2 1 := ⟨_, _, _, rfl, by decide, "TroubleMemory$Code", w_132, Or.inl rfl⟩
theorem fF_Cd_36 : px_FpF "TroubleMemory$Code" 36 2 1 (.int) := ⟨_, _, _, rfl, by decide, ⟨"TroubleMemory$Code", w_132, Or.inl rfl⟩, rfl, rfl, rfl⟩
theorem f_Cd_39 : px_Fd "TroubleMemory$Code" 39 2 2 := ⟨_, _, _, rfl, by decide, "TroubleMemory$Code", w_135, Or.inl rfl⟩
theorem fF_Cd_39 : px_FpF "TroubleMemory$Code" 39 2 2 (.int) := ⟨_, _, _, rfl, by decide, ⟨"TroubleMemory$Code", w_135, Or.inl rfl⟩, rfl, rfl, rfl⟩
theorem f_Cd_42 : px_Fd "TroubleMemory$Code" 42 2 3 := ⟨_, _, _, rfl, by decide, "TroubleMemory$Code", w_137, Or.inl rfl⟩
theorem fF_Cd_42 : px_FpF "TroubleMemory$Code" 42 2 3 (.int) := ⟨_, _, _, rfl, by decide, ⟨"TroubleMemory$Code", w_137, Or.inl rfl⟩, rfl, rfl, rfl⟩
theorem f_En_9 : px_Fd "TroubleMemory$Entry" 9 4 3 := ⟨_, _, _, rfl, by decide, "TroubleMemory$Entry", w_361, Or.inl rfl⟩
theorem fp_En_9 : px_Fp "TroubleMemory$Entry" 9 4 3 (.int) := ⟨_, _, _, rfl, by decide, ⟨"TroubleMemory$Entry", w_361, Or.inl rfl⟩, rfl, rfl⟩
theorem f_En_15 : px_Fd "TroubleMemory$Entry" 15 4 0 := ⟨_, _, _, rfl, by decide, "TroubleMemory$Entry", w_354, Or.inl rfl⟩
theorem fF_En_15 : px_FpF "TroubleMemory$Entry" 15 4 0 (.object "TroubleMemory$Code") := ⟨_, _, _, rfl, by decide, ⟨"TroubleMemory$Entry", w_354, Or.inl rfl⟩, rfl, rfl, rfl⟩
theorem f_En_19 : px_Fd "TroubleMemory$Entry" 19 4 1 := ⟨_, _, _, rfl, by decide, "TroubleMemory$Entry", w_357, Or.inl rfl⟩
theorem fF_En_19 : px_FpF "TroubleMemory$Entry" 19 4 1 (.object "TroubleMemory$Snapshot") := ⟨_, _, _, rfl, by decide, ⟨"TroubleMemory$Entry", w_357, Or.inl rfl⟩, rfl, rfl, rfl⟩
theorem f_En_23 : px_Fd "TroubleMemory$Entry" 23 4 2 := ⟨_, _, _, rfl, by decide, "TroubleMemory$Entry", w_359, Or.inl rfl⟩
theorem fp_En_23 : px_Fp "TroubleMemory$Entry" 23 4 2 (.object "TroubleMemory$Snapshot") := ⟨_, _, _, rfl, by decide, ⟨"TroubleMemory$Entry", w_359, Or.inl rfl⟩, rfl, rfl⟩
theorem f_En_32 : px_Fd "TroubleMemory$Entry" 32 2 1 := ⟨_, _, _, rfl, by decide, "TroubleMemory$Code", w_133, Or.inl rfl⟩
theorem f_En_37 : px_Fd "TroubleMemory$Entry" 37 2 4 := ⟨_, _, _, rfl, by decide, "TroubleMemory$Code", w_139, Or.inl rfl⟩
theorem f_Mem_12 : px_Fd "TroubleMemory$Memory" 12 1 1 := ⟨_, _, _, rfl, by decide, "TroubleMemory$Memory", w_65, Or.inl rfl⟩
theorem fF_Mem_12 : px_FpF "TroubleMemory$Memory" 12 1 1 (.object "java/util/ArrayList") := ⟨_, _, _, rfl, by decide, ⟨"TroubleMemory$Memory", w_65, Or.inl rfl⟩, rfl, rfl, rfl⟩
theorem f_Mem_18 : px_Fd "TroubleMemory$Memory" 18 1 2 := ⟨_, _, _, rfl, by decide, "TroubleMemory$Memory", w_67, Or.inl rfl⟩
theorem fF_Mem_18 : px_FpF "TroubleMemory$Memory" 18 1 2 (.object "java/util/ArrayList") := ⟨_, _, _, rfl, by decide, ⟨"TroubleMemory$Memory", w_67, Or.inl rfl⟩, rfl, rfl, rfl⟩
theorem f_Mem_21 : px_Fd "TroubleMemory$Memory" 21 1 0 := ⟨_, _, _, rfl, by decide, "TroubleMemory$Memory", w_64, Or.inl rfl⟩
theorem fF_Mem_21 : px_FpF "TroubleMemory$Memory" 21 1 0 (.int) := ⟨_, _, _, rfl, by decide, ⟨"TroubleMemory$Memory", w_64, Or.inl rfl⟩, rfl, rfl, rfl⟩
theorem f_Mem_25 : px_Fd "TroubleMemory$Memory" 25 2 8 := ⟨_, _, _, rfl, by decide, "TroubleMemory$Code", w_148, Or.inl rfl⟩
theorem fp_Mem_25 : px_Fp "TroubleMemory$Memory" 25 2 8 (.object "TroubleMemory$Entry") := ⟨_, _, _, rfl, by decide, ⟨"TroubleMemory$Code", w_148, Or.inl rfl⟩, rfl, rfl⟩
theorem f_Mem_63 : px_Fd "TroubleMemory$Memory" 63 4 0 := ⟨_, _, _, rfl, by decide, "TroubleMemory$Entry", w_355, Or.inl rfl⟩
theorem f_Sn_7 : px_Fd "TroubleMemory$Snapshot" 7 5 0 := ⟨_, _, _, rfl, by decide, "TroubleMemory$Snapshot", w_297, Or.inl rfl⟩
theorem fF_Sn_7 : px_FpF "TroubleMemory$Snapshot" 7 5 0 (.int) := ⟨_, _, _, rfl, by decide, ⟨"TroubleMemory$Snapshot", w_297, Or.inl rfl⟩, rfl, rfl, rfl⟩
theorem f_Sn_13 : px_Fd "TroubleMemory$Snapshot" 13 5 1 := ⟨_, _, _, rfl, by decide, "TroubleMemory$Snapshot", w_298, Or.inl rfl⟩
theorem fF_Sn_13 : px_FpF "TroubleMemory$Snapshot" 13 5 1 (.int) := ⟨_, _, _, rfl, by decide, ⟨"TroubleMemory$Snapshot", w_298, Or.inl rfl⟩, rfl, rfl, rfl⟩
theorem f_Sn_16 : px_Fd "TroubleMemory$Snapshot" 16 5 2 := ⟨_, _, _, rfl, by decide, "TroubleMemory$Snapshot", w_299, Or.inl rfl⟩
theorem fF_Sn_16 : px_FpF "TroubleMemory$Snapshot" 16 5 2 (.int) := ⟨_, _, _, rfl, by decide, ⟨"TroubleMemory$Snapshot", w_299, Or.inl rfl⟩, rfl, rfl, rfl⟩
theorem f_Sn_19 : px_Fd "TroubleMemory$Snapshot" 19 5 3 := ⟨_, _, _, rfl, by decide, "TroubleMemory$Snapshot", w_300, Or.inl rfl⟩
theorem fF_Sn_19 : px_FpF "TroubleMemory$Snapshot" 19 5 3 (.int) := ⟨_, _, _, rfl, by decide, ⟨"TroubleMemory$Snapshot", w_300, Or.inl rfl⟩, rfl, rfl, rfl⟩
theorem f_Sg_9 : px_Fd "TroubleMemory$Standing" 9 3 0 := ⟨_, _, _, rfl, by decide, "TroubleMemory$Standing", w_115, Or.inl rfl⟩
theorem fp_Sg_9 : px_Fp "TroubleMemory$Standing" 9 3 0 (.int) := ⟨_, _, _, rfl, by decide, ⟨"TroubleMemory$Standing", w_115, Or.inl rfl⟩, rfl, rfl⟩
theorem f_Sg_15 : px_Fd "TroubleMemory$Standing" 15 3 1 := ⟨_, _, _, rfl, by decide, "TroubleMemory$Standing", w_117, Or.inl rfl⟩
theorem fp_Sg_15 : px_Fp "TroubleMemory$Standing" 15 3 1 (.int) := ⟨_, _, _, rfl, by decide, ⟨"TroubleMemory$Standing", w_117, Or.inl rfl⟩, rfl, rfl⟩
theorem f_Sg_18 : px_Fd "TroubleMemory$Standing" 18 3 2 := ⟨_, _, _, rfl, by decide, "TroubleMemory$Standing", w_118, Or.inl rfl⟩
theorem fp_Sg_18 : px_Fp "TroubleMemory$Standing" 18 3 2 (.int) := ⟨_, _, _, rfl, by decide, ⟨"TroubleMemory$Standing", w_118, Or.inl rfl⟩, rfl, rfl⟩
theorem f_Sg_21 : px_Fd "TroubleMemory$Standing" 21 3 3 := ⟨_, _, _, rfl, by decide, "TroubleMemory$Standing", w_120, Or.inl rfl⟩
theorem fp_Sg_21 : px_Fp "TroubleMemory$Standing" 21 3 3 (.int) := ⟨_, _, _, rfl, by decide, ⟨"TroubleMemory$Standing", w_120, Or.inl rfl⟩, rfl, rfl⟩
theorem f_Rf_7 : px_Fd "TroubleMemoryModel" 7 7 3 := ⟨_, _, _, rfl, by decide, "TroubleMemoryModel", w_493, Or.inl rfl⟩
theorem fF_Rf_7 : px_FpF "TroubleMemoryModel" 7 7 3 (.array .int) := ⟨_, _, _, rfl, by decide, ⟨"TroubleMemoryModel", w_493, Or.inl rfl⟩, rfl, rfl, rfl⟩
theorem f_Rf_13 : px_Fd "TroubleMemoryModel" 13 7 4 := ⟨_, _, _, rfl, by decide, "TroubleMemoryModel", w_494, Or.inl rfl⟩
theorem fF_Rf_13 : px_FpF "TroubleMemoryModel" 13 7 4 (.array .int) := ⟨_, _, _, rfl, by decide, ⟨"TroubleMemoryModel", w_494, Or.inl rfl⟩, rfl, rfl, rfl⟩
theorem f_Rf_16 : px_Fd "TroubleMemoryModel" 16 7 5 := ⟨_, _, _, rfl, by decide, "TroubleMemoryModel", w_495, Or.inl rfl⟩
theorem fF_Rf_16 : px_FpF "TroubleMemoryModel" 16 7 5 (.array .int) := ⟨_, _, _, rfl, by decide, ⟨"TroubleMemoryModel", w_495, Or.inl rfl⟩, rfl, rfl, rfl⟩
theorem f_Rf_19 : px_Fd "TroubleMemoryModel" 19 7 6 := ⟨_, _, _, rfl, by decide, "TroubleMemoryModel", w_496, Or.inl rfl⟩
theorem fF_Rf_19 : px_FpF "TroubleMemoryModel" 19 7 6 (.array .int) := ⟨_, _, _, rfl, by decide, ⟨"TroubleMemoryModel", w_496, Or.inl rfl⟩, rfl, rfl, rfl⟩
theorem f_Rf_22 : px_Fd "TroubleMemoryModel" 22 7 7 := ⟨_, _, _, rfl, by decide, "TroubleMemoryModel", w_497, Or.inl rfl⟩
theorem fF_Rf_22 : px_FpF "TroubleMemoryModel" 22 7 7 (.array .int) := ⟨_, _, _, rfl, by decide, ⟨"TroubleMemoryModel", w_497, Or.inl rfl⟩, rfl, rfl, rfl⟩
theorem f_Rf_25 : px_Fd "TroubleMemoryModel" 25 7 8 := ⟨_, _, _, rfl, by decide, "TroubleMemoryModel", w_498, Or.inl rfl⟩
theorem fF_Rf_25 : px_FpF "TroubleMemoryModel" 25 7 8 (.array .boolean) := ⟨_, _, _, rfl, by decide, ⟨"TroubleMemoryModel", w_498, Or.inl rfl⟩, rfl, rfl, rfl⟩
theorem f_Rf_29 : px_Fd "TroubleMemoryModel" 29 7 9 := ⟨_, _, _, rfl, by decide, "TroubleMemoryModel", w_499, Or.inl rfl⟩
theorem fF_Rf_29 : px_FpF "TroubleMemoryModel" 29 7 9 (.array .int) := ⟨_, _, _, rfl, by decide, ⟨"TroubleMemoryModel", w_499, Or.inl rfl⟩, rfl, rfl, rfl⟩
theorem f_Rf_32 : px_Fd "TroubleMemoryModel" 32 7 10 := ⟨_, _, _, rfl, by decide, "TroubleMemoryModel", w_500, Or.inl rfl⟩
theorem fF_Rf_32 : px_FpF "TroubleMemoryModel" 32 7 10 (.array .int) := ⟨_, _, _, rfl, by decide, ⟨"TroubleMemoryModel", w_500, Or.inl rfl⟩, rfl, rfl, rfl⟩
theorem f_Rf_35 : px_Fd "TroubleMemoryModel" 35 7 11 := ⟨_, _, _, rfl, by decide, "TroubleMemoryModel", w_501, Or.inl rfl⟩
theorem fF_Rf_35 : px_FpF "TroubleMemoryModel" 35 7 11 (.array .int) := ⟨_, _, _, rfl, by decide, ⟨"TroubleMemoryModel", w_501, Or.inl rfl⟩, rfl, rfl, rfl⟩
theorem f_Rf_38 : px_Fd "TroubleMemoryModel" 38 7 12 := ⟨_, _, _, rfl, by decide, "TroubleMemoryModel", w_502, Or.inl rfl⟩
theorem fF_Rf_38 : px_FpF "TroubleMemoryModel" 38 7 12 (.array .boolean) := ⟨_, _, _, rfl, by decide, ⟨"TroubleMemoryModel", w_502, Or.inl rfl⟩, rfl, rfl, rfl⟩
theorem f_Rf_41 : px_Fd "TroubleMemoryModel" 41 7 13 := ⟨_, _, _, rfl, by decide, "TroubleMemoryModel", w_503, Or.inl rfl⟩
theorem fF_Rf_41 : px_FpF "TroubleMemoryModel" 41 7 13 (.array .int) := ⟨_, _, _, rfl, by decide, ⟨"TroubleMemoryModel", w_503, Or.inl rfl⟩, rfl, rfl, rfl⟩
theorem f_Rf_44 : px_Fd "TroubleMemoryModel" 44 7 14 := ⟨_, _, _, rfl, by decide, "TroubleMemoryModel", w_504, Or.inl rfl⟩
theorem fF_Rf_44 : px_FpF "TroubleMemoryModel" 44 7 14 (.array .int) := ⟨_, _, _, rfl, by decide, ⟨"TroubleMemoryModel", w_504, Or.inl rfl⟩, rfl, rfl, rfl⟩
theorem f_Rf_47 : px_Fd "TroubleMemoryModel" 47 7 15 := ⟨_, _, _, rfl, by decide, "TroubleMemoryModel", w_505, Or.inl rfl⟩
theorem fF_Rf_47 : px_FpF "TroubleMemoryModel" 47 7 15 (.array .int) := ⟨_, _, _, rfl, by decide, ⟨"TroubleMemoryModel", w_505, Or.inl rfl⟩, rfl, rfl, rfl⟩
theorem f_Rf_50 : px_Fd "TroubleMemoryModel" 50 7 16 := ⟨_, _, _, rfl, by decide, "TroubleMemoryModel", w_506, Or.inl rfl⟩
theorem fF_Rf_50 : px_FpF "TroubleMemoryModel" 50 7 16 (.array .int) := ⟨_, _, _, rfl, by decide, ⟨"TroubleMemoryModel", w_506, Or.inl rfl⟩, rfl, rfl, rfl⟩
theorem f_Rf_53 : px_Fd "TroubleMemoryModel" 53 7 17 := ⟨_, _, _, rfl, by decide, "TroubleMemoryModel", w_507, Or.inl rfl⟩
theorem fF_Rf_53 : px_FpF "TroubleMemoryModel" 53 7 17 (.array .int) := ⟨_, _, _, rfl, by decide, ⟨"TroubleMemoryModel", w_507, Or.inl rfl⟩, rfl, rfl, rfl⟩
theorem f_Rf_56 : px_Fd "TroubleMemoryModel" 56 7 18 := ⟨_, _, _, rfl, by decide, "TroubleMemoryModel", w_508, Or.inl rfl⟩
theorem fF_Rf_56 : px_FpF "TroubleMemoryModel" 56 7 18 (.array .int) := ⟨_, _, _, rfl, by decide, ⟨"TroubleMemoryModel", w_508, Or.inl rfl⟩, rfl, rfl, rfl⟩
theorem f_Rf_59 : px_Fd "TroubleMemoryModel" 59 7 21 := ⟨_, _, _, rfl, by decide, "TroubleMemoryModel", w_511, Or.inl rfl⟩
theorem fF_Rf_59 : px_FpF "TroubleMemoryModel" 59 7 21 (.array .int) := ⟨_, _, _, rfl, by decide, ⟨"TroubleMemoryModel", w_511, Or.inl rfl⟩, rfl, rfl, rfl⟩
theorem f_Rf_62 : px_Fd "TroubleMemoryModel" 62 7 22 := ⟨_, _, _, rfl, by decide, "TroubleMemoryModel", w_512, Or.inl rfl⟩
theorem fF_Rf_62 : px_FpF "TroubleMemoryModel" 62 7 22 (.array .boolean) := ⟨_, _, _, rfl, by decide, ⟨"TroubleMemoryModel", w_512, Or.inl rfl⟩, rfl, rfl, rfl⟩
theorem f_Rf_66 : px_Fd "TroubleMemoryModel" 66 7 1 := ⟨_, _, _, rfl, by decide, "TroubleMemoryModel", w_491, Or.inl rfl⟩
theorem fF_Rf_66 : px_FpF "TroubleMemoryModel" 66 7 1 (.int) := ⟨_, _, _, rfl, by decide, ⟨"TroubleMemoryModel", w_491, Or.inl rfl⟩, rfl, rfl, rfl⟩
theorem f_Rf_70 : px_Fd "TroubleMemoryModel" 70 7 0 := ⟨_, _, _, rfl, by decide, "TroubleMemoryModel", w_490, Or.inl rfl⟩
theorem fp_Rf_70 : px_Fp "TroubleMemoryModel" 70 7 0 (.int) := ⟨_, _, _, rfl, by decide, ⟨"TroubleMemoryModel", w_490, Or.inl rfl⟩, rfl, rfl⟩
theorem f_Rf_73 : px_Fd "TroubleMemoryModel" 73 7 2 := ⟨_, _, _, rfl, by decide, "TroubleMemoryModel", w_492, Or.inl rfl⟩
theorem fp_Rf_73 : px_Fp "TroubleMemoryModel" 73 7 2 (.int) := ⟨_, _, _, rfl, by decide, ⟨"TroubleMemoryModel", w_492, Or.inl rfl⟩, rfl, rfl⟩
theorem f_Rf_84 : px_Fd "TroubleMemoryModel" 84 7 23 := ⟨_, _, _, rfl, by decide, "TroubleMemoryModel", w_513, Or.inl rfl⟩
theorem fp_Rf_84 : px_Fp "TroubleMemoryModel" 84 7 23 (.boolean) := ⟨_, _, _, rfl, by decide, ⟨"TroubleMemoryModel", w_513, Or.inl rfl⟩, rfl, rfl⟩
theorem f_Rf_95 : px_Fd "TroubleMemoryModel" 95 7 24 := ⟨_, _, _, rfl, by decide, "TroubleMemoryModel", w_514, Or.inl rfl⟩
theorem fp_Rf_95 : px_Fp "TroubleMemoryModel" 95 7 24 (.int) := ⟨_, _, _, rfl, by decide, ⟨"TroubleMemoryModel", w_514, Or.inl rfl⟩, rfl, rfl⟩
theorem f_Rf_98 : px_Fd "TroubleMemoryModel" 98 7 25 := ⟨_, _, _, rfl, by decide, "TroubleMemoryModel", w_515, Or.inl rfl⟩
theorem fp_Rf_98 : px_Fp "TroubleMemoryModel" 98 7 25 (.int) := ⟨_, _, _, rfl, by decide, ⟨"TroubleMemoryModel", w_515, Or.inl rfl⟩, rfl, rfl⟩
theorem f_Rf_116 : px_Fd "TroubleMemoryModel" 116 7 20 := ⟨_, _, _, rfl, by decide, "TroubleMemoryModel", w_510, Or.inl rfl⟩
theorem fp_Rf_116 : px_Fp "TroubleMemoryModel" 116 7 20 (.int) := ⟨_, _, _, rfl, by decide, ⟨"TroubleMemoryModel", w_510, Or.inl rfl⟩, rfl, rfl⟩
theorem f_Rf_119 : px_Fd "TroubleMemoryModel" 119 7 19 := ⟨_, _, _, rfl, by decide, "TroubleMemoryModel", w_509, Or.inl rfl⟩
theorem fp_Rf_119 : px_Fp "TroubleMemoryModel" 119 7 19 (.int) := ⟨_, _, _, rfl, by decide, ⟨"TroubleMemoryModel", w_509, Or.inl rfl⟩, rfl, rfl⟩
theorem f_ALs_7 : px_Fd "java/util/AbstractList" 7 6 2 := ⟨_, _, _, rfl, by decide, "java/util/AbstractList", w_42, Or.inl rfl⟩
theorem fp_ALs_7 : px_Fp "java/util/AbstractList" 7 6 2 (.int) := ⟨_, _, _, rfl, by decide, ⟨"java/util/AbstractList", w_42, Or.inl rfl⟩, rfl, rfl⟩
theorem f_AL_9 : px_Fd "java/util/ArrayList" 9 6 0 := ⟨_, _, _, rfl, by decide, "java/util/ArrayList", w_40, Or.inl rfl⟩
theorem fp_AL_9 : px_Fp "java/util/ArrayList" 9 6 0 (.array (.object "java/lang/Object")) := ⟨_, _, _, rfl, by decide, ⟨"java/util/ArrayList", w_40, Or.inl rfl⟩, rfl, rfl⟩
theorem f_AL_48 : px_Fd "java/util/ArrayList" 48 6 1 := ⟨_, _, _, rfl, by decide, "java/util/ArrayList", w_41, Or.inl rfl⟩
theorem fp_AL_48 : px_Fp "java/util/ArrayList" 48 6 1 (.int) := ⟨_, _, _, rfl, by decide, ⟨"java/util/ArrayList", w_41, Or.inl rfl⟩, rfl, rfl⟩
theorem f_AL_63 : px_Fd "java/util/ArrayList" 63 6 2 := ⟨_, _, _, rfl, by decide, "java/util/ArrayList", w_43, Or.inr w_44⟩
theorem fp_AL_63 : px_Fp "java/util/ArrayList" 63 6 2 (.int) := ⟨_, _, _, rfl, by decide, ⟨"java/util/ArrayList", w_43, Or.inr w_44⟩, rfl, rfl⟩
theorem nc_Lw_7 : px_Nc "TroubleMemoryLaw" 7 0 6 [.null, .null, .int 0, .int 0, .int 0, .int 0] := ⟨_, _, rfl, w_18, w_19, w_1, by decide +kernel⟩
theorem cs_Lw_7 : px_Cs "TroubleMemoryLaw" 7 0 := ⟨_, _, _, rfl, w_18⟩
theorem nc_TM_9 : px_Nc "TroubleMemory" 9 6 3 [.null, .int 0, .int 0] := ⟨_, _, rfl, w_26, w_27, w_4, by decide +kernel⟩
theorem cs_TM_9 : px_Cs "TroubleMemory" 9 6 := ⟨_, _, _, rfl, w_26⟩
theorem nc_TM_30 : px_Nc "TroubleMemory" 30 1 3 [.int 0, .null, .null] := ⟨_, _, rfl, w_52, w_53, w_5, by decide +kernel⟩
theorem cs_TM_30 : px_Cs "TroubleMemory" 30 1 := ⟨_, _, _, rfl, w_52⟩
theorem nc_Mem_9 : px_Nc "TroubleMemory$Memory" 9 6 3 [.null, .int 0, .int 0] := ⟨_, _, rfl, w_62, w_27, w_4, by decide +kernel⟩
theorem cs_Mem_9 : px_Cs "TroubleMemory$Memory" 9 6 := ⟨_, _, _, rfl, w_62⟩
theorem nc_TM_48 : px_Nc "TroubleMemory" 48 2 9 [.int 0, .int 0, .int 0, .int 0, .null, .null, .int 0, .null, .null] := ⟨_, _, rfl, w_103, w_104, w_7, by decide +kernel⟩
theorem cs_TM_48 : px_Cs "TroubleMemory" 48 2 := ⟨_, _, _, rfl, w_103⟩
theorem nc_Cd_9 : px_Nc "TroubleMemory$Code" 9 3 4 [.int 0, .int 0, .int 0, .int 0] := ⟨_, _, rfl, w_109, w_110, w_8, by decide +kernel⟩
theorem cs_Cd_9 : px_Cs "TroubleMemory$Code" 9 3 := ⟨_, _, _, rfl, w_109⟩
theorem nc_TM_120 : px_Nc "TroubleMemory" 120 5 4 [.int 0, .int 0, .int 0, .int 0] := ⟨_, _, rfl, w_287, w_288, w_15, by decide +kernel⟩
theorem cs_TM_120 : px_Cs "TroubleMemory" 120 5 := ⟨_, _, _, rfl, w_287⟩
theorem nc_Mem_32 : px_Nc "TroubleMemory$Memory" 32 4 4 [.null, .null, .null, .int 0] := ⟨_, _, rfl, w_325, w_349, w_16, by decide +kernel⟩
theorem cs_Mem_32 : px_Cs "TroubleMemory$Memory" 32 4 := ⟨_, _, _, rfl, w_325⟩
theorem nc_TM_111 : px_Nc "TroubleMemory" 111 4 4 [.null, .null, .null, .int 0] := ⟨_, _, rfl, w_463, w_349, w_16, by decide +kernel⟩
theorem cs_TM_111 : px_Cs "TroubleMemory" 111 4 := ⟨_, _, _, rfl, w_463⟩
theorem nc_Lw_18 : px_Nc "TroubleMemoryLaw" 18 7 26 [.int 0, .int 0, .int 0, .null, .null, .null, .null, .null, .null, .null, .null, .null, .null, .null, .null, .null, .null, .null, .null, .int 0, .int 0, .null, .null, .int 0, .int 0, .int 0] := ⟨_, _, rfl, w_483, w_484, w_6, by decide +kernel⟩
theorem cs_Lw_18 : px_Cs "TroubleMemoryLaw" 18 7 := ⟨_, _, _, rfl, w_483⟩
theorem c_Lw_15 : px_cI "TroubleMemoryLaw" 15 m_TM_init 1 := ⟨w_1, w_20, w_21, rfl, ⟨by decide +kernel, by decide +kernel, by decide +kernel⟩, rfl⟩
theorem c_TM_11 : px_cI "TroubleMemory" 11 m_AL_init 0 := ⟨w_4, w_28, w_29, rfl, ⟨by decide +kernel, by decide +kernel, by decide +kernel⟩, rfl⟩
theorem c_AL_1 : px_cI "java/util/ArrayList" 1 m_ALs_init 0 := ⟨w_3, w_31, w_32, rfl, ⟨by decide +kernel, by decide +kernel, by decide +kernel⟩, rfl⟩
theorem c_ALs_1 : px_cI "java/util/AbstractList" 1 m_ACn_init 0 := ⟨w_2, w_34, w_35, rfl, ⟨by decide +kernel, by decide +kernel, by decide +kernel⟩, rfl⟩
theorem c_TM_33 : px_cS "TroubleMemory" 33 m_TM_isWithin 3 := ⟨w_1, w_55, w_56, ⟨by decide +kernel, by decide +kernel, by decide +kernel⟩⟩
theorem c_TM_37 : px_cI "TroubleMemory" 37 m_Mem_init 1 := ⟨w_5, w_58, w_59, rfl, ⟨by decide +kernel, by decide +kernel, by decide +kernel⟩, rfl⟩
theorem c_Mem_11 : px_cI "TroubleMemory$Memory" 11 m_AL_init 0 := ⟨w_4, w_63, w_29, rfl, ⟨by decide +kernel, by decide +kernel, by decide +kernel⟩, rfl⟩
theorem c_Lw_21 : px_cV "TroubleMemoryLaw" 21 "TroubleMemory" m_TM_code 3 := ⟨List.forall_mem_cons.mpr ⟨w_95, List.forall_mem_cons.mpr ⟨w_96, List.forall_mem_cons.mpr ⟨w_97, List.forall_mem_cons.mpr ⟨w_1, fun _ h => absurd h List.not_mem_nil⟩⟩⟩⟩, rfl, ⟨by decide +kernel, by decide +kernel, by decide +kernel⟩⟩
theorem c_TM_44 : px_cV "TroubleMemory" 44 "java/util/ArrayList" m_AL_size 0 := ⟨List.forall_mem_cons.mpr ⟨w_99, List.forall_mem_cons.mpr ⟨w_100, List.forall_mem_cons.mpr ⟨w_101, List.forall_mem_cons.mpr ⟨w_4, fun _ h => absurd h List.not_mem_nil⟩⟩⟩⟩, rfl, ⟨by decide +kernel, by decide +kernel, by decide +kernel⟩⟩
theorem c_TM_50 : px_cI "TroubleMemory" 50 m_Cd_init 4 := ⟨w_7, w_105, w_106, rfl, ⟨by decide +kernel, by decide +kernel, by decide +kernel⟩, rfl⟩
theorem c_Cd_11 : px_cIN "TroubleMemory$Code" 11 "TroubleMemory" m_Sg_init 0 := ⟨w_8, w_111, w_112, rfl, ⟨by decide +kernel, by decide +kernel, by decide +kernel⟩, rfl⟩
theorem c_TM_53 : px_cV "TroubleMemory" 53 "java/util/ArrayList" m_AL_add1 1 := ⟨List.forall_mem_cons.mpr ⟨w_169, List.forall_mem_cons.mpr ⟨w_170, List.forall_mem_cons.mpr ⟨w_171, List.forall_mem_cons.mpr ⟨w_4, fun _ h => absurd h List.not_mem_nil⟩⟩⟩⟩, rfl, ⟨by decide +kernel, by decide +kernel, by decide +kernel⟩⟩
theorem c_AL_131 : px_cV "java/util/ArrayList" 131 "java/util/ArrayList" m_AL_add3 3 := ⟨List.forall_mem_cons.mpr ⟨w_173, List.forall_mem_cons.mpr ⟨w_175, List.forall_mem_cons.mpr ⟨wp_0, List.forall_mem_cons.mpr ⟨w_4, fun _ h => absurd h List.not_mem_nil⟩⟩⟩⟩, rfl, ⟨by decide +kernel, by decide +kernel, by decide +kernel⟩⟩
theorem c_AL_129 : px_cV "java/util/ArrayList" 129 "java/util/ArrayList" m_AL_grow0 0 := ⟨List.forall_mem_cons.mpr ⟨w_177, List.forall_mem_cons.mpr ⟨w_179, List.forall_mem_cons.mpr ⟨wp_1, List.forall_mem_cons.mpr ⟨w_4, fun _ h => absurd h List.not_mem_nil⟩⟩⟩⟩, rfl, ⟨by decide +kernel, by decide +kernel, by decide +kernel⟩⟩
theorem c_AL_69 : px_cV "java/util/ArrayList" 69 "java/util/ArrayList" m_AL_grow1 1 := ⟨List.forall_mem_cons.mpr ⟨w_181, List.forall_mem_cons.mpr ⟨w_183, List.forall_mem_cons.mpr ⟨wp_2, List.forall_mem_cons.mpr ⟨w_4, fun _ h => absurd h List.not_mem_nil⟩⟩⟩⟩, rfl, ⟨by decide +kernel, by decide +kernel, by decide +kernel⟩⟩
theorem c_AL_73 : px_cS "java/util/ArrayList" 73 m_ArS_newLength 3 := ⟨w_9, w_185, w_186, ⟨by decide +kernel, by decide +kernel, by decide +kernel⟩⟩
theorem c_AL_66 : px_cS "java/util/ArrayList" 66 m_Ars_copyOf2 2 := ⟨w_11, w_195, w_196, ⟨by decide +kernel, by decide +kernel, by decide +kernel⟩⟩
theorem c_Ars_300 : px_cS "java/util/Arrays" 300 m_Ars_copyOf3 3 := ⟨w_11, w_210, w_211, ⟨by decide +kernel, by decide +kernel, by decide +kernel⟩⟩
theorem c_Lw_26 : px_cV "TroubleMemoryLaw" 26 "TroubleMemory" m_TM_event 2 := ⟨List.forall_mem_cons.mpr ⟨w_224, List.forall_mem_cons.mpr ⟨w_225, List.forall_mem_cons.mpr ⟨w_226, List.forall_mem_cons.mpr ⟨w_1, fun _ h => absurd h List.not_mem_nil⟩⟩⟩⟩, rfl, ⟨by decide +kernel, by decide +kernel, by decide +kernel⟩⟩
theorem c_TM_60 : px_cV "TroubleMemory" 60 "TroubleMemory" m_TM_find 1 := ⟨List.forall_mem_cons.mpr ⟨w_228, List.forall_mem_cons.mpr ⟨w_230, List.forall_mem_cons.mpr ⟨wp_3, List.forall_mem_cons.mpr ⟨w_1, fun _ h => absurd h List.not_mem_nil⟩⟩⟩⟩, rfl, ⟨by decide +kernel, by decide +kernel, by decide +kernel⟩⟩
theorem c_TM_88 : px_cV "TroubleMemory" 88 "java/util/ArrayList" m_AL_get 1 := ⟨List.forall_mem_cons.mpr ⟨w_232, List.forall_mem_cons.mpr ⟨w_233, List.forall_mem_cons.mpr ⟨w_234, List.forall_mem_cons.mpr ⟨w_4, fun _ h => absurd h List.not_mem_nil⟩⟩⟩⟩, rfl, ⟨by decide +kernel, by decide +kernel, by decide +kernel⟩⟩
theorem c_AL_118 : px_cS "java/util/ArrayList" 118 m_Obs_checkIndex 2 := ⟨w_13, w_236, w_237, ⟨by decide +kernel, by decide +kernel, by decide +kernel⟩⟩
theorem c_Obs_105 : px_cS "java/util/Objects" 105 m_Prc_checkIndex 3 := ⟨w_14, w_239, w_240, ⟨by decide +kernel, by decide +kernel, by decide +kernel⟩⟩
theorem c_AL_123 : px_cV "java/util/ArrayList" 123 "java/util/ArrayList" m_AL_elementData 1 := ⟨List.forall_mem_cons.mpr ⟨w_242, List.forall_mem_cons.mpr ⟨w_243, List.forall_mem_cons.mpr ⟨w_244, List.forall_mem_cons.mpr ⟨w_4, fun _ h => absurd h List.not_mem_nil⟩⟩⟩⟩, rfl, ⟨by decide +kernel, by decide +kernel, by decide +kernel⟩⟩
theorem c_TM_64 : px_cV "TroubleMemory" 64 "TroubleMemory$Code" m_Cd_condition 0 := ⟨List.forall_mem_cons.mpr ⟨w_246, List.forall_mem_cons.mpr ⟨w_247, List.forall_mem_cons.mpr ⟨w_248, List.forall_mem_cons.mpr ⟨w_7, fun _ h => absurd h List.not_mem_nil⟩⟩⟩⟩, rfl, ⟨by decide +kernel, by decide +kernel, by decide +kernel⟩⟩
theorem c_TM_67 : px_cV "TroubleMemory" 67 "TroubleMemory" m_TM_isOn 1 := ⟨List.forall_mem_cons.mpr ⟨w_250, List.forall_mem_cons.mpr ⟨w_252, List.forall_mem_cons.mpr ⟨wp_4, List.forall_mem_cons.mpr ⟨w_1, fun _ h => absurd h List.not_mem_nil⟩⟩⟩⟩, rfl, ⟨by decide +kernel, by decide +kernel, by decide +kernel⟩⟩
theorem c_TM_71 : px_cV "TroubleMemory" 71 "TroubleMemory$Code" m_Cd_count 1 := ⟨List.forall_mem_cons.mpr ⟨w_254, List.forall_mem_cons.mpr ⟨w_255, List.forall_mem_cons.mpr ⟨w_256, List.forall_mem_cons.mpr ⟨w_7, fun _ h => absurd h List.not_mem_nil⟩⟩⟩⟩, rfl, ⟨by decide +kernel, by decide +kernel, by decide +kernel⟩⟩
theorem c_TM_75 : px_cV "TroubleMemory" 75 "TroubleMemory" m_TM_judge 1 := ⟨List.forall_mem_cons.mpr ⟨w_260, List.forall_mem_cons.mpr ⟨w_262, List.forall_mem_cons.mpr ⟨wp_5, List.forall_mem_cons.mpr ⟨w_1, fun _ h => absurd h List.not_mem_nil⟩⟩⟩⟩, rfl, ⟨by decide +kernel, by decide +kernel, by decide +kernel⟩⟩
theorem c_TM_176 : px_cV "TroubleMemory" 176 "TroubleMemory$Standing" m_Sg_pass 0 := ⟨List.forall_mem_cons.mpr ⟨w_264, List.forall_mem_cons.mpr ⟨w_265, List.forall_mem_cons.mpr ⟨w_266, List.forall_mem_cons.mpr ⟨w_8, fun _ h => absurd h List.not_mem_nil⟩⟩⟩⟩, rfl, ⟨by decide +kernel, by decide +kernel, by decide +kernel⟩⟩
theorem c_TM_173 : px_cV "TroubleMemory" 173 "TroubleMemory$Standing" m_Sg_has 1 := ⟨List.forall_mem_cons.mpr ⟨w_268, List.forall_mem_cons.mpr ⟨w_269, List.forall_mem_cons.mpr ⟨w_270, List.forall_mem_cons.mpr ⟨w_8, fun _ h => absurd h List.not_mem_nil⟩⟩⟩⟩, rfl, ⟨by decide +kernel, by decide +kernel, by decide +kernel⟩⟩
theorem c_TM_179 : px_cV "TroubleMemory" 179 "TroubleMemory$Standing" m_Sg_fail 1 := ⟨List.forall_mem_cons.mpr ⟨w_272, List.forall_mem_cons.mpr ⟨w_273, List.forall_mem_cons.mpr ⟨w_274, List.forall_mem_cons.mpr ⟨w_8, fun _ h => absurd h List.not_mem_nil⟩⟩⟩⟩, rfl, ⟨by decide +kernel, by decide +kernel, by decide +kernel⟩⟩
theorem c_Sg_24 : px_cV "TroubleMemory$Standing" 24 "TroubleMemory$Standing" m_Sg_has 1 := ⟨List.forall_mem_cons.mpr ⟨w_276, List.forall_mem_cons.mpr ⟨w_269, List.forall_mem_cons.mpr ⟨w_270, List.forall_mem_cons.mpr ⟨w_8, fun _ h => absurd h List.not_mem_nil⟩⟩⟩⟩, rfl, ⟨by decide +kernel, by decide +kernel, by decide +kernel⟩⟩
theorem c_TM_182 : px_cV "TroubleMemory" 182 "TroubleMemory$Code" m_Cd_isHidden 0 := ⟨List.forall_mem_cons.mpr ⟨w_278, List.forall_mem_cons.mpr ⟨w_279, List.forall_mem_cons.mpr ⟨w_280, List.forall_mem_cons.mpr ⟨w_7, fun _ h => absurd h List.not_mem_nil⟩⟩⟩⟩, rfl, ⟨by decide +kernel, by decide +kernel, by decide +kernel⟩⟩
theorem c_Cd_57 : px_cV "TroubleMemory$Code" 57 "TroubleMemory$Standing" m_Sg_has 1 := ⟨List.forall_mem_cons.mpr ⟨w_282, List.forall_mem_cons.mpr ⟨w_269, List.forall_mem_cons.mpr ⟨w_270, List.forall_mem_cons.mpr ⟨w_8, fun _ h => absurd h List.not_mem_nil⟩⟩⟩⟩, rfl, ⟨by decide +kernel, by decide +kernel, by decide +kernel⟩⟩
theorem c_TM_186 : px_cV "TroubleMemory" 186 "TroubleMemory" m_TM_takeSnapshot 1 := ⟨List.forall_mem_cons.mpr ⟨w_283, List.forall_mem_cons.mpr ⟨w_285, List.forall_mem_cons.mpr ⟨wp_6, List.forall_mem_cons.mpr ⟨w_1, fun _ h => absurd h List.not_mem_nil⟩⟩⟩⟩, rfl, ⟨by decide +kernel, by decide +kernel, by decide +kernel⟩⟩
theorem c_TM_149 : px_cV "TroubleMemory" 149 "TroubleMemory" m_TM_countCodesWith 1 := ⟨List.forall_mem_cons.mpr ⟨w_289, List.forall_mem_cons.mpr ⟨w_291, List.forall_mem_cons.mpr ⟨wp_7, List.forall_mem_cons.mpr ⟨w_1, fun _ h => absurd h List.not_mem_nil⟩⟩⟩⟩, rfl, ⟨by decide +kernel, by decide +kernel, by decide +kernel⟩⟩
theorem c_TM_197 : px_cI "TroubleMemory" 197 m_Sn_init 4 := ⟨w_15, w_293, w_294, rfl, ⟨by decide +kernel, by decide +kernel, by decide +kernel⟩, rfl⟩
theorem c_TM_190 : px_cV "TroubleMemory" 190 "TroubleMemory$Memory" m_Mem_store 2 := ⟨List.forall_mem_cons.mpr ⟨w_310, List.forall_mem_cons.mpr ⟨w_311, List.forall_mem_cons.mpr ⟨w_312, List.forall_mem_cons.mpr ⟨w_5, fun _ h => absurd h List.not_mem_nil⟩⟩⟩⟩, rfl, ⟨by decide +kernel, by decide +kernel, by decide +kernel⟩⟩
theorem c_Mem_31 : px_cV "TroubleMemory$Memory" 31 "TroubleMemory$Entry" m_En_happenAgain 1 := ⟨List.forall_mem_cons.mpr ⟨w_314, List.forall_mem_cons.mpr ⟨w_315, List.forall_mem_cons.mpr ⟨w_316, List.forall_mem_cons.mpr ⟨w_16, fun _ h => absurd h List.not_mem_nil⟩⟩⟩⟩, rfl, ⟨by decide +kernel, by decide +kernel, by decide +kernel⟩⟩
theorem c_Mem_37 : px_cV "TroubleMemory$Memory" 37 "java/util/ArrayList" m_AL_size 0 := ⟨List.forall_mem_cons.mpr ⟨w_319, List.forall_mem_cons.mpr ⟨w_100, List.forall_mem_cons.mpr ⟨w_101, List.forall_mem_cons.mpr ⟨w_4, fun _ h => absurd h List.not_mem_nil⟩⟩⟩⟩, rfl, ⟨by decide +kernel, by decide +kernel, by decide +kernel⟩⟩
theorem c_Mem_41 : px_cV "TroubleMemory$Memory" 41 "TroubleMemory$Memory" m_Mem_displaceFor 1 := ⟨List.forall_mem_cons.mpr ⟨w_320, List.forall_mem_cons.mpr ⟨w_322, List.forall_mem_cons.mpr ⟨wp_8, List.forall_mem_cons.mpr ⟨w_5, fun _ h => absurd h List.not_mem_nil⟩⟩⟩⟩, rfl, ⟨by decide +kernel, by decide +kernel, by decide +kernel⟩⟩
theorem c_Mem_52 : px_cV "TroubleMemory$Memory" 52 "java/util/ArrayList" m_AL_get 1 := ⟨List.forall_mem_cons.mpr ⟨w_324, List.forall_mem_cons.mpr ⟨w_233, List.forall_mem_cons.mpr ⟨w_234, List.forall_mem_cons.mpr ⟨w_4, fun _ h => absurd h List.not_mem_nil⟩⟩⟩⟩, rfl, ⟨by decide +kernel, by decide +kernel, by decide +kernel⟩⟩
theorem c_Mem_56 : px_cV "TroubleMemory$Memory" 56 "TroubleMemory$Entry" m_En_mayGoFor 1 := ⟨List.forall_mem_cons.mpr ⟨w_326, List.forall_mem_cons.mpr ⟨w_327, List.forall_mem_cons.mpr ⟨w_328, List.forall_mem_cons.mpr ⟨w_16, fun _ h => absurd h List.not_mem_nil⟩⟩⟩⟩, rfl, ⟨by decide +kernel, by decide +kernel, by decide +kernel⟩⟩
theorem c_En_41 : px_cV "TroubleMemory$Entry" 41 "TroubleMemory$Standing" m_Sg_has 1 := ⟨List.forall_mem_cons.mpr ⟨w_330, List.forall_mem_cons.mpr ⟨w_269, List.forall_mem_cons.mpr ⟨w_270, List.forall_mem_cons.mpr ⟨w_8, fun _ h => absurd h List.not_mem_nil⟩⟩⟩⟩, rfl, ⟨by decide +kernel, by decide +kernel, by decide +kernel⟩⟩
theorem c_Mem_59 : px_cV "TroubleMemory$Memory" 59 "TroubleMemory$Entry" m_En_goesBefore 1 := ⟨List.forall_mem_cons.mpr ⟨w_331, List.forall_mem_cons.mpr ⟨w_332, List.forall_mem_cons.mpr ⟨w_333, List.forall_mem_cons.mpr ⟨w_16, fun _ h => absurd h List.not_mem_nil⟩⟩⟩⟩, rfl, ⟨by decide +kernel, by decide +kernel, by decide +kernel⟩⟩
theorem c_Mem_48 : px_cV "TroubleMemory$Memory" 48 "java/util/ArrayList" m_AL_add1 1 := ⟨List.forall_mem_cons.mpr ⟨w_335, List.forall_mem_cons.mpr ⟨w_170, List.forall_mem_cons.mpr ⟨w_171, List.forall_mem_cons.mpr ⟨w_4, fun _ h => absurd h List.not_mem_nil⟩⟩⟩⟩, rfl, ⟨by decide +kernel, by decide +kernel, by decide +kernel⟩⟩
theorem c_Mem_67 : px_cV "TroubleMemory$Memory" 67 "TroubleMemory$Memory" m_Mem_drop 1 := ⟨List.forall_mem_cons.mpr ⟨w_336, List.forall_mem_cons.mpr ⟨w_337, List.forall_mem_cons.mpr ⟨w_338, List.forall_mem_cons.mpr ⟨w_5, fun _ h => absurd h List.not_mem_nil⟩⟩⟩⟩, rfl, ⟨by decide +kernel, by decide +kernel, by decide +kernel⟩⟩
theorem c_Mem_71 : px_cV "TroubleMemory$Memory" 71 "java/util/ArrayList" m_AL_remove 1 := ⟨List.forall_mem_cons.mpr ⟨w_340, List.forall_mem_cons.mpr ⟨w_341, List.forall_mem_cons.mpr ⟨w_342, List.forall_mem_cons.mpr ⟨w_4, fun _ h => absurd h List.not_mem_nil⟩⟩⟩⟩, rfl, ⟨by decide +kernel, by decide +kernel, by decide +kernel⟩⟩
theorem c_AL_144 : px_cV "java/util/ArrayList" 144 "java/util/ArrayList" m_AL_fastRemove 2 := ⟨List.forall_mem_cons.mpr ⟨w_344, List.forall_mem_cons.mpr ⟨w_346, List.forall_mem_cons.mpr ⟨wp_9, List.forall_mem_cons.mpr ⟨w_4, fun _ h => absurd h List.not_mem_nil⟩⟩⟩⟩, rfl, ⟨by decide +kernel, by decide +kernel, by decide +kernel⟩⟩
theorem c_Mem_45 : px_cI "TroubleMemory$Memory" 45 m_En_init 2 := ⟨w_16, w_350, w_351, rfl, ⟨by decide +kernel, by decide +kernel, by decide +kernel⟩, rfl⟩
theorem c_Lw_31 : px_cV "TroubleMemoryLaw" 31 "TroubleMemory" m_TM_cycle 1 := ⟨List.forall_mem_cons.mpr ⟨w_372, List.forall_mem_cons.mpr ⟨w_373, List.forall_mem_cons.mpr ⟨w_374, List.forall_mem_cons.mpr ⟨w_1, fun _ h => absurd h List.not_mem_nil⟩⟩⟩⟩, rfl, ⟨by decide +kernel, by decide +kernel, by decide +kernel⟩⟩
theorem c_TM_92 : px_cV "TroubleMemory" 92 "TroubleMemory" m_TM_endCycle 2 := ⟨List.forall_mem_cons.mpr ⟨w_376, List.forall_mem_cons.mpr ⟨w_378, List.forall_mem_cons.mpr ⟨wp_10, List.forall_mem_cons.mpr ⟨w_1, fun _ h => absurd h List.not_mem_nil⟩⟩⟩⟩, rfl, ⟨by decide +kernel, by decide +kernel, by decide +kernel⟩⟩
theorem c_TM_198 : px_cV "TroubleMemory" 198 "TroubleMemory$Standing" m_Sg_wasOnlyGood 0 := ⟨List.forall_mem_cons.mpr ⟨w_380, List.forall_mem_cons.mpr ⟨w_381, List.forall_mem_cons.mpr ⟨w_382, List.forall_mem_cons.mpr ⟨w_8, fun _ h => absurd h List.not_mem_nil⟩⟩⟩⟩, rfl, ⟨by decide +kernel, by decide +kernel, by decide +kernel⟩⟩
theorem c_TM_201 : px_cV "TroubleMemory" 201 "TroubleMemory$Standing" m_Sg_addGoodCycle 0 := ⟨List.forall_mem_cons.mpr ⟨w_384, List.forall_mem_cons.mpr ⟨w_385, List.forall_mem_cons.mpr ⟨w_386, List.forall_mem_cons.mpr ⟨w_8, fun _ h => absurd h List.not_mem_nil⟩⟩⟩⟩, rfl, ⟨by decide +kernel, by decide +kernel, by decide +kernel⟩⟩
theorem c_TM_204 : px_cV "TroubleMemory" 204 "TroubleMemory$Standing" m_Sg_ages 0 := ⟨List.forall_mem_cons.mpr ⟨w_388, List.forall_mem_cons.mpr ⟨w_389, List.forall_mem_cons.mpr ⟨w_390, List.forall_mem_cons.mpr ⟨w_8, fun _ h => absurd h List.not_mem_nil⟩⟩⟩⟩, rfl, ⟨by decide +kernel, by decide +kernel, by decide +kernel⟩⟩
theorem c_TM_207 : px_cV "TroubleMemory" 207 "TroubleMemory$Standing" m_Sg_heal 0 := ⟨List.forall_mem_cons.mpr ⟨w_392, List.forall_mem_cons.mpr ⟨w_393, List.forall_mem_cons.mpr ⟨w_394, List.forall_mem_cons.mpr ⟨w_8, fun _ h => absurd h List.not_mem_nil⟩⟩⟩⟩, rfl, ⟨by decide +kernel, by decide +kernel, by decide +kernel⟩⟩
theorem c_TM_130 : px_cV "TroubleMemory" 130 "TroubleMemory$Memory" m_Mem_drop 1 := ⟨List.forall_mem_cons.mpr ⟨w_396, List.forall_mem_cons.mpr ⟨w_337, List.forall_mem_cons.mpr ⟨w_338, List.forall_mem_cons.mpr ⟨w_5, fun _ h => absurd h List.not_mem_nil⟩⟩⟩⟩, rfl, ⟨by decide +kernel, by decide +kernel, by decide +kernel⟩⟩
theorem c_TM_96 : px_cV "TroubleMemory" 96 "TroubleMemory$Standing" m_Sg_beginCycle 0 := ⟨List.forall_mem_cons.mpr ⟨w_397, List.forall_mem_cons.mpr ⟨w_398, List.forall_mem_cons.mpr ⟨w_399, List.forall_mem_cons.mpr ⟨w_8, fun _ h => absurd h List.not_mem_nil⟩⟩⟩⟩, rfl, ⟨by decide +kernel, by decide +kernel, by decide +kernel⟩⟩
theorem c_TM_102 : px_cV "TroubleMemory" 102 "TroubleMemory$Standing" m_Sg_copyFrom 1 := ⟨List.forall_mem_cons.mpr ⟨w_401, List.forall_mem_cons.mpr ⟨w_402, List.forall_mem_cons.mpr ⟨w_403, List.forall_mem_cons.mpr ⟨w_8, fun _ h => absurd h List.not_mem_nil⟩⟩⟩⟩, rfl, ⟨by decide +kernel, by decide +kernel, by decide +kernel⟩⟩
theorem c_Lw_36 : px_cV "TroubleMemoryLaw" 36 "TroubleMemory" m_TM_status 1 := ⟨List.forall_mem_cons.mpr ⟨w_405, List.forall_mem_cons.mpr ⟨w_406, List.forall_mem_cons.mpr ⟨w_407, List.forall_mem_cons.mpr ⟨w_1, fun _ h => absurd h List.not_mem_nil⟩⟩⟩⟩, rfl, ⟨by decide +kernel, by decide +kernel, by decide +kernel⟩⟩
theorem c_Lw_41 : px_cV "TroubleMemoryLaw" 41 "TroubleMemory" m_TM_snapshot 3 := ⟨List.forall_mem_cons.mpr ⟨w_409, List.forall_mem_cons.mpr ⟨w_410, List.forall_mem_cons.mpr ⟨w_411, List.forall_mem_cons.mpr ⟨w_1, fun _ h => absurd h List.not_mem_nil⟩⟩⟩⟩, rfl, ⟨by decide +kernel, by decide +kernel, by decide +kernel⟩⟩
theorem c_TM_119 : px_cV "TroubleMemory" 119 "TroubleMemory$Snapshot" m_Sn_number 1 := ⟨List.forall_mem_cons.mpr ⟨w_413, List.forall_mem_cons.mpr ⟨w_414, List.forall_mem_cons.mpr ⟨w_415, List.forall_mem_cons.mpr ⟨w_15, fun _ h => absurd h List.not_mem_nil⟩⟩⟩⟩, rfl, ⟨by decide +kernel, by decide +kernel, by decide +kernel⟩⟩
theorem c_Lw_45 : px_cV "TroubleMemoryLaw" 45 "TroubleMemory" m_TM_clear 1 := ⟨List.forall_mem_cons.mpr ⟨w_417, List.forall_mem_cons.mpr ⟨w_418, List.forall_mem_cons.mpr ⟨w_419, List.forall_mem_cons.mpr ⟨w_1, fun _ h => absurd h List.not_mem_nil⟩⟩⟩⟩, rfl, ⟨by decide +kernel, by decide +kernel, by decide +kernel⟩⟩
theorem c_TM_124 : px_cV "TroubleMemory" 124 "TroubleMemory$Code" m_Cd_group 0 := ⟨List.forall_mem_cons.mpr ⟨w_421, List.forall_mem_cons.mpr ⟨w_422, List.forall_mem_cons.mpr ⟨w_423, List.forall_mem_cons.mpr ⟨w_7, fun _ h => absurd h List.not_mem_nil⟩⟩⟩⟩, rfl, ⟨by decide +kernel, by decide +kernel, by decide +kernel⟩⟩
theorem c_TM_127 : px_cV "TroubleMemory" 127 "TroubleMemory$Code" m_Cd_forget 0 := ⟨List.forall_mem_cons.mpr ⟨w_425, List.forall_mem_cons.mpr ⟨w_426, List.forall_mem_cons.mpr ⟨w_427, List.forall_mem_cons.mpr ⟨w_7, fun _ h => absurd h List.not_mem_nil⟩⟩⟩⟩, rfl, ⟨by decide +kernel, by decide +kernel, by decide +kernel⟩⟩
theorem c_Cd_54 : px_cV "TroubleMemory$Code" 54 "TroubleMemory$Standing" m_Sg_reset 0 := ⟨List.forall_mem_cons.mpr ⟨w_429, List.forall_mem_cons.mpr ⟨w_430, List.forall_mem_cons.mpr ⟨w_431, List.forall_mem_cons.mpr ⟨w_8, fun _ h => absurd h List.not_mem_nil⟩⟩⟩⟩, rfl, ⟨by decide +kernel, by decide +kernel, by decide +kernel⟩⟩
theorem c_Lw_49 : px_cV "TroubleMemoryLaw" 49 "TroubleMemory" m_TM_parent 2 := ⟨List.forall_mem_cons.mpr ⟨w_433, List.forall_mem_cons.mpr ⟨w_434, List.forall_mem_cons.mpr ⟨w_435, List.forall_mem_cons.mpr ⟨w_1, fun _ h => absurd h List.not_mem_nil⟩⟩⟩⟩, rfl, ⟨by decide +kernel, by decide +kernel, by decide +kernel⟩⟩
theorem c_TM_133 : px_cV "TroubleMemory" 133 "TroubleMemory$Code" m_Cd_isBelow 1 := ⟨List.forall_mem_cons.mpr ⟨w_437, List.forall_mem_cons.mpr ⟨w_438, List.forall_mem_cons.mpr ⟨w_439, List.forall_mem_cons.mpr ⟨w_7, fun _ h => absurd h List.not_mem_nil⟩⟩⟩⟩, rfl, ⟨by decide +kernel, by decide +kernel, by decide +kernel⟩⟩
theorem c_TM_141 : px_cV "TroubleMemory" 141 "TroubleMemory$Code" m_Cd_countAbove 0 := ⟨List.forall_mem_cons.mpr ⟨w_441, List.forall_mem_cons.mpr ⟨w_442, List.forall_mem_cons.mpr ⟨w_443, List.forall_mem_cons.mpr ⟨w_7, fun _ h => absurd h List.not_mem_nil⟩⟩⟩⟩, rfl, ⟨by decide +kernel, by decide +kernel, by decide +kernel⟩⟩
theorem c_Lw_54 : px_cV "TroubleMemoryLaw" 54 "TroubleMemory" m_TM_enable 2 := ⟨List.forall_mem_cons.mpr ⟨w_445, List.forall_mem_cons.mpr ⟨w_446, List.forall_mem_cons.mpr ⟨w_447, List.forall_mem_cons.mpr ⟨w_1, fun _ h => absurd h List.not_mem_nil⟩⟩⟩⟩, rfl, ⟨by decide +kernel, by decide +kernel, by decide +kernel⟩⟩
theorem c_TM_144 : px_cS "TroubleMemory" 144 m_Itg_bitCount 1 := ⟨w_17, w_449, w_450, ⟨by decide +kernel, by decide +kernel, by decide +kernel⟩⟩
theorem c_Lw_58 : px_cV "TroubleMemoryLaw" 58 "TroubleMemory" m_TM_lamp 1 := ⟨List.forall_mem_cons.mpr ⟨w_455, List.forall_mem_cons.mpr ⟨w_456, List.forall_mem_cons.mpr ⟨w_457, List.forall_mem_cons.mpr ⟨w_1, fun _ h => absurd h List.not_mem_nil⟩⟩⟩⟩, rfl, ⟨by decide +kernel, by decide +kernel, by decide +kernel⟩⟩
theorem c_Lw_62 : px_cV "TroubleMemoryLaw" 62 "TroubleMemory" m_TM_stored 2 := ⟨List.forall_mem_cons.mpr ⟨w_459, List.forall_mem_cons.mpr ⟨w_460, List.forall_mem_cons.mpr ⟨w_461, List.forall_mem_cons.mpr ⟨w_1, fun _ h => absurd h List.not_mem_nil⟩⟩⟩⟩, rfl, ⟨by decide +kernel, by decide +kernel, by decide +kernel⟩⟩
theorem c_Lw_66 : px_cV "TroubleMemoryLaw" 66 "TroubleMemory" m_TM_cut 0 := ⟨List.forall_mem_cons.mpr ⟨w_464, List.forall_mem_cons.mpr ⟨w_465, List.forall_mem_cons.mpr ⟨w_466, List.forall_mem_cons.mpr ⟨w_1, fun _ h => absurd h List.not_mem_nil⟩⟩⟩⟩, rfl, ⟨by decide +kernel, by decide +kernel, by decide +kernel⟩⟩
theorem c_Lw_71 : px_cV "TroubleMemoryLaw" 71 "TroubleMemory" m_TM_start 0 := ⟨List.forall_mem_cons.mpr ⟨w_468, List.forall_mem_cons.mpr ⟨w_469, List.forall_mem_cons.mpr ⟨w_470, List.forall_mem_cons.mpr ⟨w_1, fun _ h => absurd h List.not_mem_nil⟩⟩⟩⟩, rfl, ⟨by decide +kernel, by decide +kernel, by decide +kernel⟩⟩
theorem c_Lw_75 : px_cV "TroubleMemoryLaw" 75 "TroubleMemory" m_TM_displaced 1 := ⟨List.forall_mem_cons.mpr ⟨w_472, List.forall_mem_cons.mpr ⟨w_473, List.forall_mem_cons.mpr ⟨w_474, List.forall_mem_cons.mpr ⟨w_1, fun _ h => absurd h List.not_mem_nil⟩⟩⟩⟩, rfl, ⟨by decide +kernel, by decide +kernel, by decide +kernel⟩⟩
theorem c_Lw_79 : px_cV "TroubleMemoryLaw" 79 "TroubleMemory" m_TM_age 1 := ⟨List.forall_mem_cons.mpr ⟨w_476, List.forall_mem_cons.mpr ⟨w_477, List.forall_mem_cons.mpr ⟨w_478, List.forall_mem_cons.mpr ⟨w_1, fun _ h => absurd h List.not_mem_nil⟩⟩⟩⟩, rfl, ⟨by decide +kernel, by decide +kernel, by decide +kernel⟩⟩
theorem c_Lw_9 : px_cS "TroubleMemoryLaw" 9 m_Lw_cell 2 := ⟨w_0, w_480, w_481, ⟨by decide +kernel, by decide +kernel, by decide +kernel⟩⟩
theorem c_Lw_20 : px_cI "TroubleMemoryLaw" 20 m_Rf_init 1 := ⟨w_6, w_485, w_486, rfl, ⟨by decide +kernel, by decide +kernel, by decide +kernel⟩, rfl⟩
theorem c_Lw_25 : px_cV "TroubleMemoryLaw" 25 "TroubleMemoryModel" m_Rf_code 3 := ⟨List.forall_mem_cons.mpr ⟨w_571, List.forall_mem_cons.mpr ⟨w_572, List.forall_mem_cons.mpr ⟨w_573, List.forall_mem_cons.mpr ⟨w_6, fun _ h => absurd h List.not_mem_nil⟩⟩⟩⟩, rfl, ⟨by decide +kernel, by decide +kernel, by decide +kernel⟩⟩
theorem c_Rf_88 : px_cV "TroubleMemoryModel" 88 "TroubleMemoryModel" m_Rf_freshen 1 := ⟨List.forall_mem_cons.mpr ⟨w_575, List.forall_mem_cons.mpr ⟨w_577, List.forall_mem_cons.mpr ⟨wp_11, List.forall_mem_cons.mpr ⟨w_6, fun _ h => absurd h List.not_mem_nil⟩⟩⟩⟩, rfl, ⟨by decide +kernel, by decide +kernel, by decide +kernel⟩⟩
theorem c_Rf_80 : px_cV "TroubleMemoryModel" 80 "TroubleMemoryModel" m_Rf_set 3 := ⟨List.forall_mem_cons.mpr ⟨w_579, List.forall_mem_cons.mpr ⟨w_581, List.forall_mem_cons.mpr ⟨wp_12, List.forall_mem_cons.mpr ⟨w_6, fun _ h => absurd h List.not_mem_nil⟩⟩⟩⟩, rfl, ⟨by decide +kernel, by decide +kernel, by decide +kernel⟩⟩
theorem c_Rf_92 : px_cV "TroubleMemoryModel" 92 "TroubleMemoryModel" m_Rf_keep 1 := ⟨List.forall_mem_cons.mpr ⟨w_583, List.forall_mem_cons.mpr ⟨w_585, List.forall_mem_cons.mpr ⟨wp_13, List.forall_mem_cons.mpr ⟨w_6, fun _ h => absurd h List.not_mem_nil⟩⟩⟩⟩, rfl, ⟨by decide +kernel, by decide +kernel, by decide +kernel⟩⟩
theorem c_Rf_76 : px_cV "TroubleMemoryModel" 76 "TroubleMemoryModel" m_Rf_is 2 := ⟨List.forall_mem_cons.mpr ⟨w_587, List.forall_mem_cons.mpr ⟨w_589, List.forall_mem_cons.mpr ⟨wp_14, List.forall_mem_cons.mpr ⟨w_6, fun _ h => absurd h List.not_mem_nil⟩⟩⟩⟩, rfl, ⟨by decide +kernel, by decide +kernel, by decide +kernel⟩⟩
theorem c_Lw_30 : px_cV "TroubleMemoryLaw" 30 "TroubleMemoryModel" m_Rf_event 2 := ⟨List.forall_mem_cons.mpr ⟨w_591, List.forall_mem_cons.mpr ⟨w_592, List.forall_mem_cons.mpr ⟨w_593, List.forall_mem_cons.mpr ⟨w_6, fun _ h => absurd h List.not_mem_nil⟩⟩⟩⟩, rfl, ⟨by decide +kernel, by decide +kernel, by decide +kernel⟩⟩
theorem c_Rf_129 : px_cV "TroubleMemoryModel" 129 "TroubleMemoryModel" m_Rf_none 1 := ⟨List.forall_mem_cons.mpr ⟨w_595, List.forall_mem_cons.mpr ⟨w_597, List.forall_mem_cons.mpr ⟨wp_15, List.forall_mem_cons.mpr ⟨w_6, fun _ h => absurd h List.not_mem_nil⟩⟩⟩⟩, rfl, ⟨by decide +kernel, by decide +kernel, by decide +kernel⟩⟩
theorem c_Rf_132 : px_cV "TroubleMemoryModel" 132 "TroubleMemoryModel" m_Rf_statusOf 1 := ⟨List.forall_mem_cons.mpr ⟨w_599, List.forall_mem_cons.mpr ⟨w_601, List.forall_mem_cons.mpr ⟨wp_16, List.forall_mem_cons.mpr ⟨w_6, fun _ h => absurd h List.not_mem_nil⟩⟩⟩⟩, rfl, ⟨by decide +kernel, by decide +kernel, by decide +kernel⟩⟩
theorem c_Rf_135 : px_cV "TroubleMemoryModel" 135 "TroubleMemoryModel" m_Rf_fails 1 := ⟨List.forall_mem_cons.mpr ⟨w_603, List.forall_mem_cons.mpr ⟨w_605, List.forall_mem_cons.mpr ⟨wp_17, List.forall_mem_cons.mpr ⟨w_6, fun _ h => absurd h List.not_mem_nil⟩⟩⟩⟩, rfl, ⟨by decide +kernel, by decide +kernel, by decide +kernel⟩⟩
theorem c_Rf_122 : px_cV "TroubleMemoryModel" 122 "TroubleMemoryModel" m_Rf_hidden 1 := ⟨List.forall_mem_cons.mpr ⟨w_607, List.forall_mem_cons.mpr ⟨w_609, List.forall_mem_cons.mpr ⟨wp_18, List.forall_mem_cons.mpr ⟨w_6, fun _ h => absurd h List.not_mem_nil⟩⟩⟩⟩, rfl, ⟨by decide +kernel, by decide +kernel, by decide +kernel⟩⟩
theorem c_Rf_126 : px_cV "TroubleMemoryModel" 126 "TroubleMemoryModel" m_Rf_store 1 := ⟨List.forall_mem_cons.mpr ⟨w_611, List.forall_mem_cons.mpr ⟨w_613, List.forall_mem_cons.mpr ⟨wp_19, List.forall_mem_cons.mpr ⟨w_6, fun _ h => absurd h List.not_mem_nil⟩⟩⟩⟩, rfl, ⟨by decide +kernel, by decide +kernel, by decide +kernel⟩⟩
theorem c_Rf_105 : px_cV "TroubleMemoryModel" 105 "TroubleMemoryModel" m_Rf_shoot 2 := ⟨List.forall_mem_cons.mpr ⟨w_615, List.forall_mem_cons.mpr ⟨w_617, List.forall_mem_cons.mpr ⟨wp_20, List.forall_mem_cons.mpr ⟨w_6, fun _ h => absurd h List.not_mem_nil⟩⟩⟩⟩, rfl, ⟨by decide +kernel, by decide +kernel, by decide +kernel⟩⟩
theorem c_Rf_101 : px_cV "TroubleMemoryModel" 101 "TroubleMemoryModel" m_Rf_many 1 := ⟨List.forall_mem_cons.mpr ⟨w_619, List.forall_mem_cons.mpr ⟨w_621, List.forall_mem_cons.mpr ⟨wp_21, List.forall_mem_cons.mpr ⟨w_6, fun _ h => absurd h List.not_mem_nil⟩⟩⟩⟩, rfl, ⟨by decide +kernel, by decide +kernel, by decide +kernel⟩⟩
theorem c_Rf_109 : px_cV "TroubleMemoryModel" 109 "TroubleMemoryModel" m_Rf_entries 0 := ⟨List.forall_mem_cons.mpr ⟨w_623, List.forall_mem_cons.mpr ⟨w_625, List.forall_mem_cons.mpr ⟨wp_22, List.forall_mem_cons.mpr ⟨w_6, fun _ h => absurd h List.not_mem_nil⟩⟩⟩⟩, rfl, ⟨by decide +kernel, by decide +kernel, by decide +kernel⟩⟩
theorem c_Rf_113 : px_cV "TroubleMemoryModel" 113 "TroubleMemoryModel" m_Rf_goes 1 := ⟨List.forall_mem_cons.mpr ⟨w_627, List.forall_mem_cons.mpr ⟨w_629, List.forall_mem_cons.mpr ⟨wp_23, List.forall_mem_cons.mpr ⟨w_6, fun _ h => absurd h List.not_mem_nil⟩⟩⟩⟩, rfl, ⟨by decide +kernel, by decide +kernel, by decide +kernel⟩⟩
theorem c_Lw_35 : px_cV "TroubleMemoryLaw" 35 "TroubleMemoryModel" m_Rf_cycle 1 := ⟨List.forall_mem_cons.mpr ⟨w_631, List.forall_mem_cons.mpr ⟨w_632, List.forall_mem_cons.mpr ⟨w_633, List.forall_mem_cons.mpr ⟨w_6, fun _ h => absurd h List.not_mem_nil⟩⟩⟩⟩, rfl, ⟨by decide +kernel, by decide +kernel, by decide +kernel⟩⟩
theorem c_Lw_40 : px_cV "TroubleMemoryLaw" 40 "TroubleMemoryModel" m_Rf_status 1 := ⟨List.forall_mem_cons.mpr ⟨w_635, List.forall_mem_cons.mpr ⟨w_636, List.forall_mem_cons.mpr ⟨w_637, List.forall_mem_cons.mpr ⟨w_6, fun _ h => absurd h List.not_mem_nil⟩⟩⟩⟩, rfl, ⟨by decide +kernel, by decide +kernel, by decide +kernel⟩⟩
theorem c_Lw_44 : px_cV "TroubleMemoryLaw" 44 "TroubleMemoryModel" m_Rf_snapshot 3 := ⟨List.forall_mem_cons.mpr ⟨w_639, List.forall_mem_cons.mpr ⟨w_640, List.forall_mem_cons.mpr ⟨w_641, List.forall_mem_cons.mpr ⟨w_6, fun _ h => absurd h List.not_mem_nil⟩⟩⟩⟩, rfl, ⟨by decide +kernel, by decide +kernel, by decide +kernel⟩⟩
theorem c_Lw_48 : px_cV "TroubleMemoryLaw" 48 "TroubleMemoryModel" m_Rf_clear 1 := ⟨List.forall_mem_cons.mpr ⟨w_643, List.forall_mem_cons.mpr ⟨w_644, List.forall_mem_cons.mpr ⟨w_645, List.forall_mem_cons.mpr ⟨w_6, fun _ h => absurd h List.not_mem_nil⟩⟩⟩⟩, rfl, ⟨by decide +kernel, by decide +kernel, by decide +kernel⟩⟩
theorem c_Lw_53 : px_cV "TroubleMemoryLaw" 53 "TroubleMemoryModel" m_Rf_parent 2 := ⟨List.forall_mem_cons.mpr ⟨w_647, List.forall_mem_cons.mpr ⟨w_648, List.forall_mem_cons.mpr ⟨w_649, List.forall_mem_cons.mpr ⟨w_6, fun _ h => absurd h List.not_mem_nil⟩⟩⟩⟩, rfl, ⟨by decide +kernel, by decide +kernel, by decide +kernel⟩⟩
theorem c_Lw_57 : px_cV "TroubleMemoryLaw" 57 "TroubleMemoryModel" m_Rf_enable 2 := ⟨List.forall_mem_cons.mpr ⟨w_651, List.forall_mem_cons.mpr ⟨w_652, List.forall_mem_cons.mpr ⟨w_653, List.forall_mem_cons.mpr ⟨w_6, fun _ h => absurd h List.not_mem_nil⟩⟩⟩⟩, rfl, ⟨by decide +kernel, by decide +kernel, by decide +kernel⟩⟩
theorem c_Lw_61 : px_cV "TroubleMemoryLaw" 61 "TroubleMemoryModel" m_Rf_lamp 1 := ⟨List.forall_mem_cons.mpr ⟨w_655, List.forall_mem_cons.mpr ⟨w_656, List.forall_mem_cons.mpr ⟨w_657, List.forall_mem_cons.mpr ⟨w_6, fun _ h => absurd h List.not_mem_nil⟩⟩⟩⟩, rfl, ⟨by decide +kernel, by decide +kernel, by decide +kernel⟩⟩
theorem c_Lw_65 : px_cV "TroubleMemoryLaw" 65 "TroubleMemoryModel" m_Rf_stored 2 := ⟨List.forall_mem_cons.mpr ⟨w_659, List.forall_mem_cons.mpr ⟨w_660, List.forall_mem_cons.mpr ⟨w_661, List.forall_mem_cons.mpr ⟨w_6, fun _ h => absurd h List.not_mem_nil⟩⟩⟩⟩, rfl, ⟨by decide +kernel, by decide +kernel, by decide +kernel⟩⟩
theorem c_Lw_70 : px_cV "TroubleMemoryLaw" 70 "TroubleMemoryModel" m_Rf_cut 0 := ⟨List.forall_mem_cons.mpr ⟨w_663, List.forall_mem_cons.mpr ⟨w_664, List.forall_mem_cons.mpr ⟨w_665, List.forall_mem_cons.mpr ⟨w_6, fun _ h => absurd h List.not_mem_nil⟩⟩⟩⟩, rfl, ⟨by decide +kernel, by decide +kernel, by decide +kernel⟩⟩
theorem c_Lw_74 : px_cV "TroubleMemoryLaw" 74 "TroubleMemoryModel" m_Rf_start 0 := ⟨List.forall_mem_cons.mpr ⟨w_667, List.forall_mem_cons.mpr ⟨w_668, List.forall_mem_cons.mpr ⟨w_669, List.forall_mem_cons.mpr ⟨w_6, fun _ h => absurd h List.not_mem_nil⟩⟩⟩⟩, rfl, ⟨by decide +kernel, by decide +kernel, by decide +kernel⟩⟩
theorem c_Lw_78 : px_cV "TroubleMemoryLaw" 78 "TroubleMemoryModel" m_Rf_displaced 1 := ⟨List.forall_mem_cons.mpr ⟨w_671, List.forall_mem_cons.mpr ⟨w_672, List.forall_mem_cons.mpr ⟨w_673, List.forall_mem_cons.mpr ⟨w_6, fun _ h => absurd h List.not_mem_nil⟩⟩⟩⟩, rfl, ⟨by decide +kernel, by decide +kernel, by decide +kernel⟩⟩
theorem c_Lw_82 : px_cV "TroubleMemoryLaw" 82 "TroubleMemoryModel" m_Rf_age 1 := ⟨List.forall_mem_cons.mpr ⟨w_675, List.forall_mem_cons.mpr ⟨w_676, List.forall_mem_cons.mpr ⟨w_677, List.forall_mem_cons.mpr ⟨w_6, fun _ h => absurd h List.not_mem_nil⟩⟩⟩⟩, rfl, ⟨by decide +kernel, by decide +kernel, by decide +kernel⟩⟩
