theorem t1 {w : Cond} (h : w ∈ tables_1_1) : w ∈ lw_tbl := List.mem_append_right _ (List.mem_append_left _ h)
theorem t2 {w : Cond} (h : w ∈ tables_1_2) : w ∈ lw_tbl := List.mem_append_right _ (List.mem_append_right _ (List.mem_append_left _ h))
theorem t3 {w : Cond} (h : w ∈ tables_1_3) : w ∈ lw_tbl := List.mem_append_right _ (List.mem_append_right _ (List.mem_append_right _ (List.mem_append_left _ h)))
theorem t4 {w : Cond} (h : w ∈ tables_1_4) : w ∈ lw_tbl := List.mem_append_right _ (List.mem_append_right _ (List.mem_append_right _ (List.mem_append_right _ h)))
set_option maxRecDepth 20000 in
theorem i_X0 : ∀ w ∈ u_ws RX0 TX0 7, w ∈ lw_tbl.filter goodWord := by
  have h1 : ∀ w ∈ u_ws RX0 TX0 7, w ∈ lw_tbl ∧ goodWord w = true := by decide +kernel
  exact fun w hw => List.mem_filter.mpr (h1 w hw)
set_option maxRecDepth 20000 in
theorem i_X1 : ∀ w ∈ u_ws RX1 TX1 6, w ∈ lw_tbl.filter goodWord := by
  have h1 : ∀ w ∈ u_ws RX1 TX1 6, w ∈ lw_tbl ∧ goodWord w = true := by decide +kernel
  exact fun w hw => List.mem_filter.mpr (h1 w hw)
set_option maxRecDepth 20000 in
theorem i_X2 : ∀ w ∈ u_ws RX2 TX2 10, w ∈ lw_tbl.filter goodWord := by
  have h1 : ∀ w ∈ u_ws RX2 TX2 10, w ∈ lw_tbl ∧ goodWord w = true := by decide +kernel
  exact fun w hw => List.mem_filter.mpr (h1 w hw)
set_option maxRecDepth 20000 in
theorem i_X3 : ∀ w ∈ u_ws RX3 TX3 7, w ∈ lw_tbl.filter goodWord := by
  have h1 : ∀ w ∈ u_ws RX3 TX3 7, w ∈ lw_tbl ∧ goodWord w = true := by decide +kernel
  exact fun w hw => List.mem_filter.mpr (h1 w hw)
set_option maxRecDepth 20000 in
theorem i_X4 : ∀ w ∈ u_ws RX4 TX4 6, w ∈ lw_tbl.filter goodWord := by
  have h1 : ∀ w ∈ u_ws RX4 TX4 6, w ∈ lw_tbl ∧ goodWord w = true := by decide +kernel
  exact fun w hw => List.mem_filter.mpr (h1 w hw)
set_option maxRecDepth 20000 in
theorem i_X5 : ∀ w ∈ u_ws RX5 TX5 18, w ∈ lw_tbl.filter goodWord := by
  have h1 : ∀ w ∈ u_ws RX5 TX5 18, w ∈ lw_tbl ∧ goodWord w = true := by decide +kernel
  exact fun w hw => List.mem_filter.mpr (h1 w hw)
set_option maxRecDepth 20000 in
theorem ml_X3_3 : Cond.methodLink RX3 3 Lib.objectInit ∈ lw_tbl := t1 (List.mem_of_getElem? (i := 21) rfl)
set_option maxRecDepth 20000 in
theorem nl_X3_9 : NL RX3 9 2 10 [.null, .null, .null, .null, .null, .null, .null, .null, .int 0, .int 0] := ⟨RX2, TX2, tyX2, rfl, i_X2, tyX2_ok, (fun j hj => by rcases (show j = 0 ∨ j = 1 ∨ j = 2 ∨ j = 3 ∨ j = 4 ∨ j = 5 ∨ j = 6 ∨ j = 7 ∨ j = 8 ∨ j = 9 by omega) with rfl | rfl | rfl | rfl | rfl | rfl | rfl | rfl | rfl | rfl <;> rfl), rfl, t1 (List.mem_of_getElem? (i := 24) rfl), t1 (List.mem_of_getElem? (i := 25) rfl), t1 (List.mem_of_getElem? (i := 2) rfl)⟩
set_option maxRecDepth 20000 in
theorem ml_X3_11 : Cond.methodLink RX3 11 yX2_init ∈ lw_tbl := t1 (List.mem_of_getElem? (i := 26) rfl)
set_option maxRecDepth 20000 in
theorem fl_X3_12 : FL RX3 12 3 0 (.object "BellRoster$Tower") true := ⟨RX3, TX3, 7, tyX3, rfl, by decide, i_X3, rfl, tyX3_ok, nmX3, rfl, rfl, Or.inl (t1 (List.mem_of_getElem? (i := 126) rfl))⟩
set_option maxRecDepth 20000 in
theorem fo_X3_12 : FLo RX3 12 3 0 (.object "BellRoster$Tower") := ⟨RX3, TX3, 7, tyX3, rfl, by decide, i_X3, rfl, tyX3_ok, nmX3, rfl, rfl, t1 (List.mem_of_getElem? (i := 126) rfl), rfl⟩
set_option maxRecDepth 20000 in
theorem fl_X3_16 : FL RX3 16 3 1 (.object "BellRoster$Tower") true := ⟨RX3, TX3, 7, tyX3, rfl, by decide, i_X3, rfl, tyX3_ok, nmX3, rfl, rfl, Or.inl (t1 (List.mem_of_getElem? (i := 127) rfl))⟩
set_option maxRecDepth 20000 in
theorem fo_X3_16 : FLo RX3 16 3 1 (.object "BellRoster$Tower") := ⟨RX3, TX3, 7, tyX3, rfl, by decide, i_X3, rfl, tyX3_ok, nmX3, rfl, rfl, t1 (List.mem_of_getElem? (i := 127) rfl), rfl⟩
set_option maxRecDepth 20000 in
theorem nl_X3_19 : NL RX3 19 1 6 [.null, .null, .null, .null, .int 0, .int 0] := ⟨RX1, TX1, tyX1, rfl, i_X1, tyX1_ok, (fun j hj => by rcases (show j = 0 ∨ j = 1 ∨ j = 2 ∨ j = 3 ∨ j = 4 ∨ j = 5 by omega) with rfl | rfl | rfl | rfl | rfl | rfl <;> rfl), rfl, t1 (List.mem_of_getElem? (i := 67) rfl), t1 (List.mem_of_getElem? (i := 68) rfl), t1 (List.mem_of_getElem? (i := 3) rfl)⟩
set_option maxRecDepth 20000 in
theorem mn_X3_21 : Cond.methodLinkNest RX3 21 yX1_init "BellRoster" ∈ lw_tbl := t1 (List.mem_of_getElem? (i := 69) rfl)
set_option maxRecDepth 20000 in
theorem fl_X3_22 : FL RX3 22 3 2 (.object "BellRoster$Touch") true := ⟨RX3, TX3, 7, tyX3, rfl, by decide, i_X3, rfl, tyX3_ok, nmX3, rfl, rfl, Or.inl (t1 (List.mem_of_getElem? (i := 128) rfl))⟩
set_option maxRecDepth 20000 in
theorem fo_X3_22 : FLo RX3 22 3 2 (.object "BellRoster$Touch") := ⟨RX3, TX3, 7, tyX3, rfl, by decide, i_X3, rfl, tyX3_ok, nmX3, rfl, rfl, t1 (List.mem_of_getElem? (i := 128) rfl), rfl⟩
set_option maxRecDepth 20000 in
theorem kl_X3_26 : Cond.classLink RX3 26 RX0 ∈ lw_tbl := t1 (List.mem_of_getElem? (i := 93) rfl)
set_option maxRecDepth 20000 in
theorem fl_X3_28 : FL RX3 28 3 3 (.array (.object "BellRoster$ChangeList")) true := ⟨RX3, TX3, 7, tyX3, rfl, by decide, i_X3, rfl, tyX3_ok, nmX3, rfl, rfl, Or.inl (t1 (List.mem_of_getElem? (i := 129) rfl))⟩
set_option maxRecDepth 20000 in
theorem fo_X3_28 : FLo RX3 28 3 3 (.array (.object "BellRoster$ChangeList")) := ⟨RX3, TX3, 7, tyX3, rfl, by decide, i_X3, rfl, tyX3_ok, nmX3, rfl, rfl, t1 (List.mem_of_getElem? (i := 129) rfl), rfl⟩
set_option maxRecDepth 20000 in
theorem nl_X3_26 : NL RX3 26 0 7 [.null, .null, .int 0, .int 0, .int 0, .int 0, .int 0] := ⟨RX0, TX0, tyX0, rfl, i_X0, tyX0_ok, (fun j hj => by rcases (show j = 0 ∨ j = 1 ∨ j = 2 ∨ j = 3 ∨ j = 4 ∨ j = 5 ∨ j = 6 by omega) with rfl | rfl | rfl | rfl | rfl | rfl | rfl <;> rfl), rfl, t1 (List.mem_of_getElem? (i := 93) rfl), t1 (List.mem_of_getElem? (i := 95) rfl), t1 (List.mem_of_getElem? (i := 4) rfl)⟩
set_option maxRecDepth 20000 in
theorem mn_X3_32 : Cond.methodLinkNest RX3 32 yX0_init "BellRoster" ∈ lw_tbl := t1 (List.mem_of_getElem? (i := 96) rfl)
set_option maxRecDepth 20000 in
theorem ml_X3_33 : Cond.methodLink RX3 33 yX3_requireIndex ∈ lw_tbl := t1 (List.mem_of_getElem? (i := 182) rfl)
set_option maxRecDepth 20000 in
theorem ml_X3_37 : Cond.methodLink RX3 37 yX3_requireWithin ∈ lw_tbl := t2 (List.mem_of_getElem? (i := 116) rfl)
set_option maxRecDepth 20000 in
theorem fl_X3_41 : FL RX3 41 2 8 .int false := ⟨RX2, TX2, 10, tyX2, rfl, by decide, i_X2, rfl, tyX2_ok, nmX2, rfl, rfl, Or.inr ⟨"BellRoster", t1 (List.mem_of_getElem? (i := 41) rfl)⟩⟩
set_option maxRecDepth 20000 in
theorem ml_X3_52 : Cond.methodLink RX3 52 yX2_enrol ∈ lw_tbl := t2 (List.mem_of_getElem? (i := 151) rfl)
set_option maxRecDepth 20000 in
theorem ml_X3_56 : Cond.methodLink RX3 56 yX2_changeVotes ∈ lw_tbl := t2 (List.mem_of_getElem? (i := 162) rfl)
set_option maxRecDepth 20000 in
theorem fl_X3_59 : FL RX3 59 2 2 (.array .int) true := ⟨RX2, TX2, 10, tyX2, rfl, by decide, i_X2, rfl, tyX2_ok, nmX2, rfl, rfl, Or.inr ⟨"BellRoster", t1 (List.mem_of_getElem? (i := 33) rfl)⟩⟩
set_option maxRecDepth 20000 in
theorem ml_X3_63 : Cond.methodLink RX3 63 yX3_requireSeat ∈ lw_tbl := t2 (List.mem_of_getElem? (i := 53) rfl)
set_option maxRecDepth 20000 in
theorem ml_X3_66 : Cond.methodLink RX3 66 yX3_seatNumber ∈ lw_tbl := t2 (List.mem_of_getElem? (i := 56) rfl)
set_option maxRecDepth 20000 in
theorem fl_X3_70 : FL RX3 70 2 7 (.array .int) true := ⟨RX2, TX2, 10, tyX2, rfl, by decide, i_X2, rfl, tyX2_ok, nmX2, rfl, rfl, Or.inr ⟨"BellRoster", t1 (List.mem_of_getElem? (i := 40) rfl)⟩⟩
set_option maxRecDepth 20000 in
theorem ml_X3_73 : Cond.methodLink RX3 73 yX2_electBand ∈ lw_tbl := t2 (List.mem_of_getElem? (i := 70) rfl)
set_option maxRecDepth 20000 in
theorem ml_X3_77 : Cond.methodLink RX3 77 yX2_ringersIn ∈ lw_tbl := t2 (List.mem_of_getElem? (i := 186) rfl)
set_option maxRecDepth 20000 in
theorem ml_X3_81 : Cond.methodLink RX3 81 yX2_ringerAt ∈ lw_tbl := t2 (List.mem_of_getElem? (i := 59) rfl)
set_option maxRecDepth 20000 in
theorem ml_X3_86 : Cond.methodLink RX3 86 yX2_ringsBell ∈ lw_tbl := t2 (List.mem_of_getElem? (i := 195) rfl)
set_option maxRecDepth 20000 in
theorem fl_X3_92 : FL RX3 92 2 6 (.array .int) true := ⟨RX2, TX2, 10, tyX2, rfl, by decide, i_X2, rfl, tyX2_ok, nmX2, rfl, rfl, Or.inr ⟨"BellRoster", t1 (List.mem_of_getElem? (i := 38) rfl)⟩⟩
set_option maxRecDepth 20000 in
theorem ml_X3_97 : Cond.methodLink RX3 97 yX2_bandOf ∈ lw_tbl := t2 (List.mem_of_getElem? (i := 205) rfl)
set_option maxRecDepth 20000 in
theorem ml_X3_100 : Cond.methodLink RX3 100 yX2_bellOf ∈ lw_tbl := t2 (List.mem_of_getElem? (i := 206) rfl)
set_option maxRecDepth 20000 in
theorem ml_X3_103 : Cond.methodLink RX3 103 yX2_tellOfRinger ∈ lw_tbl := t2 (List.mem_of_getElem? (i := 33) rfl)
set_option maxRecDepth 20000 in
theorem ml_X3_106 : Cond.methodLink RX3 106 yX2_copyFrom ∈ lw_tbl := t2 (List.mem_of_getElem? (i := 63) rfl)
set_option maxRecDepth 20000 in
theorem fl_X3_110 : FL RX3 110 3 4 .int false := ⟨RX3, TX3, 7, tyX3, rfl, by decide, i_X3, rfl, tyX3_ok, nmX3, rfl, rfl, Or.inl (t1 (List.mem_of_getElem? (i := 130) rfl))⟩
set_option maxRecDepth 20000 in
theorem ml_X3_115 : Cond.methodLink RX3 115 yX3_listNumbered ∈ lw_tbl := t2 (List.mem_of_getElem? (i := 86) rfl)
set_option maxRecDepth 20000 in
theorem fl_X3_124 : FL RX3 124 0 2 .int false := ⟨RX0, TX0, 7, tyX0, rfl, by decide, i_X0, rfl, tyX0_ok, nmX0, rfl, rfl, Or.inr ⟨"BellRoster", t1 (List.mem_of_getElem? (i := 104) rfl)⟩⟩
set_option maxRecDepth 20000 in
theorem ml_X3_129 : Cond.methodLink RX3 129 yX0_append ∈ lw_tbl := t2 (List.mem_of_getElem? (i := 232) rfl)
set_option maxRecDepth 20000 in
theorem ml_X3_132 : Cond.methodLink RX3 132 yX0_measureCourse ∈ lw_tbl := t2 (List.mem_of_getElem? (i := 236) rfl)
set_option maxRecDepth 20000 in
theorem ml_X3_136 : Cond.methodLink RX3 136 yX0_tellOfCourse ∈ lw_tbl := t2 (List.mem_of_getElem? (i := 90) rfl)
set_option maxRecDepth 20000 in
theorem ml_X3_141 : Cond.methodLink RX3 141 yX1_begin ∈ lw_tbl := t3 (List.mem_of_getElem? (i := 59) rfl)
set_option maxRecDepth 20000 in
theorem ml_X3_144 : Cond.methodLink RX3 144 yX0_changeAt ∈ lw_tbl := t2 (List.mem_of_getElem? (i := 98) rfl)
set_option maxRecDepth 20000 in
theorem ml_X3_147 : Cond.methodLink RX3 147 yX1_makeChange ∈ lw_tbl := t3 (List.mem_of_getElem? (i := 60) rfl)
set_option maxRecDepth 20000 in
theorem ml_X3_150 : Cond.methodLink RX3 150 yX1_rowCode ∈ lw_tbl := t3 (List.mem_of_getElem? (i := 61) rfl)
set_option maxRecDepth 20000 in
theorem fl_X3_154 : FL RX3 154 0 1 (.array .int) true := ⟨RX0, TX0, 7, tyX0, rfl, by decide, i_X0, rfl, tyX0_ok, nmX0, rfl, rfl, Or.inr ⟨"BellRoster", t1 (List.mem_of_getElem? (i := 102) rfl)⟩⟩
set_option maxRecDepth 20000 in
theorem ml_X3_157 : Cond.methodLink RX3 157 yX3_canBeRung ∈ lw_tbl := t3 (List.mem_of_getElem? (i := 80) rfl)
set_option maxRecDepth 20000 in
theorem ml_X3_163 : Cond.methodLink RX3 163 yX2_ringTouch ∈ lw_tbl := t3 (List.mem_of_getElem? (i := 89) rfl)
set_option maxRecDepth 20000 in
theorem fl_X3_167 : FL RX3 167 3 5 .int false := ⟨RX3, TX3, 7, tyX3, rfl, by decide, i_X3, rfl, tyX3_ok, nmX3, rfl, rfl, Or.inl (t1 (List.mem_of_getElem? (i := 131) rfl))⟩
set_option maxRecDepth 20000 in
theorem fl_X3_170 : FL RX3 170 3 6 .int false := ⟨RX3, TX3, 7, tyX3, rfl, by decide, i_X3, rfl, tyX3_ok, nmX3, rfl, rfl, Or.inl (t1 (List.mem_of_getElem? (i := 132) rfl))⟩
set_option maxRecDepth 20000 in
theorem ml_X3_173 : Cond.methodLink RX3 173 yX3_votesBrought ∈ lw_tbl := t3 (List.mem_of_getElem? (i := 116) rfl)
set_option maxRecDepth 20000 in
theorem fl_X3_177 : FL RX3 177 0 3 .int false := ⟨RX0, TX0, 7, tyX0, rfl, by decide, i_X0, rfl, tyX0_ok, nmX0, rfl, rfl, Or.inr ⟨"BellRoster", t1 (List.mem_of_getElem? (i := 107) rfl)⟩⟩
set_option maxRecDepth 20000 in
theorem fl_X3_180 : FL RX3 180 2 9 .int false := ⟨RX2, TX2, 10, tyX2, rfl, by decide, i_X2, rfl, tyX2_ok, nmX2, rfl, rfl, Or.inr ⟨"BellRoster", t1 (List.mem_of_getElem? (i := 44) rfl)⟩⟩
set_option maxRecDepth 20000 in
theorem ml_X3_183 : Cond.methodLink RX3 183 yX2_ringersAtBells ∈ lw_tbl := t1 (List.mem_of_getElem? (i := 152) rfl)
set_option maxRecDepth 20000 in
theorem ml_X3_186 : Cond.methodLink RX3 186 yX2_fullBands ∈ lw_tbl := t2 (List.mem_of_getElem? (i := 13) rfl)
set_option maxRecDepth 20000 in
theorem ml_X3_189 : Cond.methodLink RX3 189 yX2_allFaults ∈ lw_tbl := t2 (List.mem_of_getElem? (i := 17) rfl)
set_option maxRecDepth 20000 in
theorem ml_X3_192 : Cond.methodLink RX3 192 yX2_allVotes ∈ lw_tbl := t2 (List.mem_of_getElem? (i := 21) rfl)
set_option maxRecDepth 20000 in
theorem ml_X3_195 : Cond.methodLink RX3 195 yX2_passDays ∈ lw_tbl := t3 (List.mem_of_getElem? (i := 138) rfl)
set_option maxRecDepth 20000 in
theorem ml_X3_198 : Cond.methodLink RX3 198 yX2_seatedUnlike ∈ lw_tbl := t3 (List.mem_of_getElem? (i := 147) rfl)
set_option maxRecDepth 20000 in
theorem ml_X3_202 : Cond.methodLink RX3 202 yX2_skillAtBells ∈ lw_tbl := t1 (List.mem_of_getElem? (i := 168) rfl)
set_option maxRecDepth 20000 in
theorem cl_X3_205 : Cond.constantLong RX3 205 1237 ∈ lw_tbl := t1 (List.mem_of_getElem? (i := 176) rfl)
set_option maxRecDepth 20000 in
theorem cl_X3_207 : Cond.constantLong RX3 207 31 ∈ lw_tbl := t1 (List.mem_of_getElem? (i := 177) rfl)
set_option maxRecDepth 20000 in
theorem ml_X3_209 : Cond.methodLink RX3 209 yX3_count ∈ lw_tbl := t1 (List.mem_of_getElem? (i := 178) rfl)
set_option maxRecDepth 20000 in
theorem ml_X3_212 : Cond.methodLink RX3 212 yX3_digestRingers ∈ lw_tbl := t2 (List.mem_of_getElem? (i := 25) rfl)
set_option maxRecDepth 20000 in
theorem ml_X3_216 : Cond.methodLink RX3 216 yX3_digestBands ∈ lw_tbl := t2 (List.mem_of_getElem? (i := 45) rfl)
set_option maxRecDepth 20000 in
theorem ml_X3_219 : Cond.methodLink RX3 219 yX3_digestMethods ∈ lw_tbl := t2 (List.mem_of_getElem? (i := 78) rfl)
set_option maxRecDepth 20000 in
theorem ml_X3_222 : Cond.methodLink RX3 222 yX3_told ∈ lw_tbl := t2 (List.mem_of_getElem? (i := 29) rfl)
set_option maxRecDepth 20000 in
theorem ml_X3_225 : Cond.methodLink RX3 225 yX3_bell ∈ lw_tbl := t2 (List.mem_of_getElem? (i := 49) rfl)
set_option maxRecDepth 20000 in
theorem ml_X3_228 : Cond.methodLink RX3 228 yX3_about ∈ lw_tbl := t2 (List.mem_of_getElem? (i := 82) rfl)
set_option maxRecDepth 20000 in
theorem ml_X3_231 : Cond.methodLink RX3 231 yX3_dodges ∈ lw_tbl := t2 (List.mem_of_getElem? (i := 102) rfl)
set_option maxRecDepth 20000 in
theorem ml_X3_234 : Cond.methodLink RX3 234 yX2_isFresh ∈ lw_tbl := t3 (List.mem_of_getElem? (i := 84) rfl)
set_option maxRecDepth 20000 in
theorem ml_X5_1 : Cond.methodLink RX5 1 Lib.objectInit ∈ lw_tbl := t3 (List.mem_of_getElem? (i := 163) rfl)
set_option maxRecDepth 20000 in
theorem fl_X5_9 : FL RX5 9 5 2 (.array .int) true := ⟨RX5, TX5, 18, tyX5, rfl, by decide, i_X5, rfl, tyX5_ok, nmX5, rfl, rfl, Or.inl (t3 (List.mem_of_getElem? (i := 197) rfl))⟩
set_option maxRecDepth 20000 in
theorem fo_X5_9 : FLo RX5 9 5 2 (.array .int) := ⟨RX5, TX5, 18, tyX5, rfl, by decide, i_X5, rfl, tyX5_ok, nmX5, rfl, rfl, t3 (List.mem_of_getElem? (i := 197) rfl), rfl⟩
set_option maxRecDepth 20000 in
theorem fl_X5_13 : FL RX5 13 5 3 (.array .int) true := ⟨RX5, TX5, 18, tyX5, rfl, by decide, i_X5, rfl, tyX5_ok, nmX5, rfl, rfl, Or.inl (t3 (List.mem_of_getElem? (i := 199) rfl))⟩
set_option maxRecDepth 20000 in
theorem fo_X5_13 : FLo RX5 13 5 3 (.array .int) := ⟨RX5, TX5, 18, tyX5, rfl, by decide, i_X5, rfl, tyX5_ok, nmX5, rfl, rfl, t3 (List.mem_of_getElem? (i := 199) rfl), rfl⟩
set_option maxRecDepth 20000 in
theorem fl_X5_16 : FL RX5 16 5 4 (.array .int) true := ⟨RX5, TX5, 18, tyX5, rfl, by decide, i_X5, rfl, tyX5_ok, nmX5, rfl, rfl, Or.inl (t3 (List.mem_of_getElem? (i := 201) rfl))⟩
set_option maxRecDepth 20000 in
theorem fo_X5_16 : FLo RX5 16 5 4 (.array .int) := ⟨RX5, TX5, 18, tyX5, rfl, by decide, i_X5, rfl, tyX5_ok, nmX5, rfl, rfl, t3 (List.mem_of_getElem? (i := 201) rfl), rfl⟩
set_option maxRecDepth 20000 in
theorem fl_X5_19 : FL RX5 19 5 6 (.array .int) true := ⟨RX5, TX5, 18, tyX5, rfl, by decide, i_X5, rfl, tyX5_ok, nmX5, rfl, rfl, Or.inl (t3 (List.mem_of_getElem? (i := 204) rfl))⟩
set_option maxRecDepth 20000 in
theorem fo_X5_19 : FLo RX5 19 5 6 (.array .int) := ⟨RX5, TX5, 18, tyX5, rfl, by decide, i_X5, rfl, tyX5_ok, nmX5, rfl, rfl, t3 (List.mem_of_getElem? (i := 204) rfl), rfl⟩
set_option maxRecDepth 20000 in
theorem fl_X5_22 : FL RX5 22 5 7 (.array .int) true := ⟨RX5, TX5, 18, tyX5, rfl, by decide, i_X5, rfl, tyX5_ok, nmX5, rfl, rfl, Or.inl (t3 (List.mem_of_getElem? (i := 206) rfl))⟩
set_option maxRecDepth 20000 in
theorem fo_X5_22 : FLo RX5 22 5 7 (.array .int) := ⟨RX5, TX5, 18, tyX5, rfl, by decide, i_X5, rfl, tyX5_ok, nmX5, rfl, rfl, t3 (List.mem_of_getElem? (i := 206) rfl), rfl⟩
set_option maxRecDepth 20000 in
theorem fl_X5_25 : FL RX5 25 5 10 (.array .int) true := ⟨RX5, TX5, 18, tyX5, rfl, by decide, i_X5, rfl, tyX5_ok, nmX5, rfl, rfl, Or.inl (t3 (List.mem_of_getElem? (i := 209) rfl))⟩
set_option maxRecDepth 20000 in
theorem fo_X5_25 : FLo RX5 25 5 10 (.array .int) := ⟨RX5, TX5, 18, tyX5, rfl, by decide, i_X5, rfl, tyX5_ok, nmX5, rfl, rfl, t3 (List.mem_of_getElem? (i := 209) rfl), rfl⟩
set_option maxRecDepth 20000 in
theorem fl_X5_28 : FL RX5 28 5 11 (.array .int) true := ⟨RX5, TX5, 18, tyX5, rfl, by decide, i_X5, rfl, tyX5_ok, nmX5, rfl, rfl, Or.inl (t3 (List.mem_of_getElem? (i := 211) rfl))⟩
set_option maxRecDepth 20000 in
theorem fo_X5_28 : FLo RX5 28 5 11 (.array .int) := ⟨RX5, TX5, 18, tyX5, rfl, by decide, i_X5, rfl, tyX5_ok, nmX5, rfl, rfl, t3 (List.mem_of_getElem? (i := 211) rfl), rfl⟩
set_option maxRecDepth 20000 in
theorem fl_X5_31 : FL RX5 31 5 13 (.array .int) true := ⟨RX5, TX5, 18, tyX5, rfl, by decide, i_X5, rfl, tyX5_ok, nmX5, rfl, rfl, Or.inl (t3 (List.mem_of_getElem? (i := 215) rfl))⟩
set_option maxRecDepth 20000 in
theorem fo_X5_31 : FLo RX5 31 5 13 (.array .int) := ⟨RX5, TX5, 18, tyX5, rfl, by decide, i_X5, rfl, tyX5_ok, nmX5, rfl, rfl, t3 (List.mem_of_getElem? (i := 215) rfl), rfl⟩
set_option maxRecDepth 20000 in
theorem fl_X5_34 : FL RX5 34 5 14 (.array .int) true := ⟨RX5, TX5, 18, tyX5, rfl, by decide, i_X5, rfl, tyX5_ok, nmX5, rfl, rfl, Or.inl (t3 (List.mem_of_getElem? (i := 216) rfl))⟩
set_option maxRecDepth 20000 in
theorem fo_X5_34 : FLo RX5 34 5 14 (.array .int) := ⟨RX5, TX5, 18, tyX5, rfl, by decide, i_X5, rfl, tyX5_ok, nmX5, rfl, rfl, t3 (List.mem_of_getElem? (i := 216) rfl), rfl⟩
set_option maxRecDepth 20000 in
theorem fl_X5_37 : FL RX5 37 5 15 (.array .int) true := ⟨RX5, TX5, 18, tyX5, rfl, by decide, i_X5, rfl, tyX5_ok, nmX5, rfl, rfl, Or.inl (t3 (List.mem_of_getElem? (i := 217) rfl))⟩
set_option maxRecDepth 20000 in
theorem fo_X5_37 : FLo RX5 37 5 15 (.array .int) := ⟨RX5, TX5, 18, tyX5, rfl, by decide, i_X5, rfl, tyX5_ok, nmX5, rfl, rfl, t3 (List.mem_of_getElem? (i := 217) rfl), rfl⟩
set_option maxRecDepth 20000 in
theorem nl_X5_40 : NL RX5 40 4 6 [.int 0, .null, .null, .null, .null, .null] := ⟨RX4, TX4, tyX4, rfl, i_X4, tyX4_ok, (fun j hj => by rcases (show j = 0 ∨ j = 1 ∨ j = 2 ∨ j = 3 ∨ j = 4 ∨ j = 5 by omega) with rfl | rfl | rfl | rfl | rfl | rfl <;> rfl), rfl, t3 (List.mem_of_getElem? (i := 164) rfl), t3 (List.mem_of_getElem? (i := 165) rfl), t1 (List.mem_of_getElem? (i := 6) rfl)⟩
set_option maxRecDepth 20000 in
theorem mn_X5_42 : Cond.methodLinkNest RX5 42 yX4_init "BellRosterModel" ∈ lw_tbl := t3 (List.mem_of_getElem? (i := 166) rfl)
set_option maxRecDepth 20000 in
theorem fl_X5_45 : FL RX5 45 5 16 (.object "BellRosterModel$State") true := ⟨RX5, TX5, 18, tyX5, rfl, by decide, i_X5, rfl, tyX5_ok, nmX5, rfl, rfl, Or.inl (t3 (List.mem_of_getElem? (i := 218) rfl))⟩
set_option maxRecDepth 20000 in
theorem fo_X5_45 : FLo RX5 45 5 16 (.object "BellRosterModel$State") := ⟨RX5, TX5, 18, tyX5, rfl, by decide, i_X5, rfl, tyX5_ok, nmX5, rfl, rfl, t3 (List.mem_of_getElem? (i := 218) rfl), rfl⟩
set_option maxRecDepth 20000 in
theorem fl_X5_49 : FL RX5 49 5 17 (.object "BellRosterModel$State") true := ⟨RX5, TX5, 18, tyX5, rfl, by decide, i_X5, rfl, tyX5_ok, nmX5, rfl, rfl, Or.inl (t3 (List.mem_of_getElem? (i := 219) rfl))⟩
set_option maxRecDepth 20000 in
theorem fo_X5_49 : FLo RX5 49 5 17 (.object "BellRosterModel$State") := ⟨RX5, TX5, 18, tyX5, rfl, by decide, i_X5, rfl, tyX5_ok, nmX5, rfl, rfl, t3 (List.mem_of_getElem? (i := 219) rfl), rfl⟩
set_option maxRecDepth 20000 in
theorem fl_X5_52 : FL RX5 52 5 0 .int false := ⟨RX5, TX5, 18, tyX5, rfl, by decide, i_X5, rfl, tyX5_ok, nmX5, rfl, rfl, Or.inl (t3 (List.mem_of_getElem? (i := 194) rfl))⟩
set_option maxRecDepth 20000 in
theorem fl_X5_56 : FL RX5 56 5 1 .int false := ⟨RX5, TX5, 18, tyX5, rfl, by decide, i_X5, rfl, tyX5_ok, nmX5, rfl, rfl, Or.inl (t3 (List.mem_of_getElem? (i := 196) rfl))⟩
set_option maxRecDepth 20000 in
theorem ml_X5_59 : Cond.methodLink RX5 59 yX5_isIn ∈ lw_tbl := t4 (List.mem_of_getElem? (i := 25) rfl)
set_option maxRecDepth 20000 in
theorem fl_X5_63 : FL RX5 63 5 5 .int false := ⟨RX5, TX5, 18, tyX5, rfl, by decide, i_X5, rfl, tyX5_ok, nmX5, rfl, rfl, Or.inl (t3 (List.mem_of_getElem? (i := 203) rfl))⟩
set_option maxRecDepth 20000 in
theorem fl_X5_66 : FL RX5 66 5 12 .int false := ⟨RX5, TX5, 18, tyX5, rfl, by decide, i_X5, rfl, tyX5_ok, nmX5, rfl, rfl, Or.inl (t3 (List.mem_of_getElem? (i := 214) rfl))⟩
set_option maxRecDepth 20000 in
theorem ml_X5_69 : Cond.methodLink RX5 69 yX5_code ∈ lw_tbl := t4 (List.mem_of_getElem? (i := 126) rfl)
set_option maxRecDepth 20000 in
theorem ml_X5_73 : Cond.methodLink RX5 73 yX5_walkChanges ∈ lw_tbl := t4 (List.mem_of_getElem? (i := 122) rfl)
set_option maxRecDepth 20000 in
theorem ml_X5_77 : Cond.methodLink RX5 77 yX5_isNew ∈ lw_tbl := t4 (List.mem_of_getElem? (i := 134) rfl)
set_option maxRecDepth 20000 in
theorem ml_X5_81 : Cond.methodLink RX5 81 yX5_walk ∈ lw_tbl := t4 (List.mem_of_getElem? (i := 118) rfl)
set_option maxRecDepth 20000 in
theorem ml_X5_84 : Cond.methodLink RX5 84 yX5_no ∈ lw_tbl := t4 (List.mem_of_getElem? (i := 28) rfl)
set_option maxRecDepth 20000 in
theorem fl_X5_88 : FL RX5 88 4 1 (.array .int) true := ⟨RX4, TX4, 6, tyX4, rfl, by decide, i_X4, rfl, tyX4_ok, nmX4, rfl, rfl, Or.inr ⟨"BellRosterModel", t3 (List.mem_of_getElem? (i := 173) rfl)⟩⟩
set_option maxRecDepth 20000 in
theorem fl_X5_91 : FL RX5 91 4 4 (.array .int) true := ⟨RX4, TX4, 6, tyX4, rfl, by decide, i_X4, rfl, tyX4_ok, nmX4, rfl, rfl, Or.inr ⟨"BellRosterModel", t3 (List.mem_of_getElem? (i := 179) rfl)⟩⟩
set_option maxRecDepth 20000 in
theorem ml_X5_94 : Cond.methodLink RX5 94 yX5_isRinger ∈ lw_tbl := t4 (List.mem_of_getElem? (i := 36) rfl)
set_option maxRecDepth 20000 in
theorem ml_X5_97 : Cond.methodLink RX5 97 Lib.Math.min.name ∈ lw_tbl := t4 (List.mem_of_getElem? (i := 40) rfl)
set_option maxRecDepth 20000 in
theorem ml_X5_103 : Cond.methodLink RX5 103 Lib.Math.max.name ∈ lw_tbl := t4 (List.mem_of_getElem? (i := 41) rfl)
set_option maxRecDepth 20000 in
theorem ml_X5_106 : Cond.methodLink RX5 106 yX5_isSeat ∈ lw_tbl := t4 (List.mem_of_getElem? (i := 46) rfl)
set_option maxRecDepth 20000 in
theorem ml_X5_110 : Cond.methodLink RX5 110 yX4_elect ∈ lw_tbl := t4 (List.mem_of_getElem? (i := 53) rfl)
set_option maxRecDepth 20000 in
theorem ml_X5_114 : Cond.methodLink RX5 114 yX4_manned ∈ lw_tbl := t4 (List.mem_of_getElem? (i := 57) rfl)
set_option maxRecDepth 20000 in
theorem ml_X5_117 : Cond.methodLink RX5 117 yX4_ringerOf ∈ lw_tbl := t4 (List.mem_of_getElem? (i := 65) rfl)
set_option maxRecDepth 20000 in
theorem fl_X5_120 : FL RX5 120 4 2 (.array .int) true := ⟨RX4, TX4, 6, tyX4, rfl, by decide, i_X4, rfl, tyX4_ok, nmX4, rfl, rfl, Or.inr ⟨"BellRosterModel", t3 (List.mem_of_getElem? (i := 175) rfl)⟩⟩
set_option maxRecDepth 20000 in
theorem fl_X5_123 : FL RX5 123 4 3 (.array .int) true := ⟨RX4, TX4, 6, tyX4, rfl, by decide, i_X4, rfl, tyX4_ok, nmX4, rfl, rfl, Or.inr ⟨"BellRosterModel", t3 (List.mem_of_getElem? (i := 177) rfl)⟩⟩
set_option maxRecDepth 20000 in
theorem ml_X5_126 : Cond.methodLink RX5 126 yX5_ringerTold ∈ lw_tbl := t4 (List.mem_of_getElem? (i := 77) rfl)
set_option maxRecDepth 20000 in
theorem ml_X5_130 : Cond.methodLink RX5 130 yX4_become ∈ lw_tbl := t4 (List.mem_of_getElem? (i := 89) rfl)
set_option maxRecDepth 20000 in
theorem ml_X5_134 : Cond.methodLink RX5 134 yX5_bellTold ∈ lw_tbl := t4 (List.mem_of_getElem? (i := 85) rfl)
set_option maxRecDepth 20000 in
theorem ml_X5_138 : Cond.methodLink RX5 138 yX5_isMethod ∈ lw_tbl := t4 (List.mem_of_getElem? (i := 106) rfl)
set_option maxRecDepth 20000 in
theorem ml_X5_141 : Cond.methodLink RX5 141 yX5_course ∈ lw_tbl := t4 (List.mem_of_getElem? (i := 130) rfl)
set_option maxRecDepth 20000 in
theorem ml_X5_144 : Cond.methodLink RX5 144 yX5_dodgesOf ∈ lw_tbl := t4 (List.mem_of_getElem? (i := 138) rfl)
set_option maxRecDepth 20000 in
theorem ml_X5_147 : Cond.methodLink RX5 147 yX5_untrue ∈ lw_tbl := t4 (List.mem_of_getElem? (i := 142) rfl)
set_option maxRecDepth 20000 in
theorem ml_X5_150 : Cond.methodLink RX5 150 yX5_methodTold ∈ lw_tbl := t4 (List.mem_of_getElem? (i := 114) rfl)
set_option maxRecDepth 20000 in
theorem ml_X5_153 : Cond.methodLink RX5 153 yX4_canRing ∈ lw_tbl := t4 (List.mem_of_getElem? (i := 158) rfl)
set_option maxRecDepth 20000 in
theorem ml_X5_156 : Cond.methodLink RX5 156 yX4_ring ∈ lw_tbl := t4 (List.mem_of_getElem? (i := 163) rfl)
set_option maxRecDepth 20000 in
theorem fl_X5_159 : FL RX5 159 5 8 .int false := ⟨RX5, TX5, 18, tyX5, rfl, by decide, i_X5, rfl, tyX5_ok, nmX5, rfl, rfl, Or.inl (t3 (List.mem_of_getElem? (i := 207) rfl))⟩
set_option maxRecDepth 20000 in
theorem fl_X5_162 : FL RX5 162 5 9 .int false := ⟨RX5, TX5, 18, tyX5, rfl, by decide, i_X5, rfl, tyX5_ok, nmX5, rfl, rfl, Or.inl (t3 (List.mem_of_getElem? (i := 208) rfl))⟩
set_option maxRecDepth 20000 in
theorem ml_X5_165 : Cond.methodLink RX5 165 yX4_allVotes ∈ lw_tbl := t4 (List.mem_of_getElem? (i := 179) rfl)
set_option maxRecDepth 20000 in
theorem ml_X5_168 : Cond.methodLink RX5 168 yX5_wouldBring ∈ lw_tbl := t4 (List.mem_of_getElem? (i := 175) rfl)
set_option maxRecDepth 20000 in
theorem fl_X5_171 : FL RX5 171 4 0 .int false := ⟨RX4, TX4, 6, tyX4, rfl, by decide, i_X4, rfl, tyX4_ok, nmX4, rfl, rfl, Or.inr ⟨"BellRosterModel", t3 (List.mem_of_getElem? (i := 171) rfl)⟩⟩
set_option maxRecDepth 20000 in
theorem ml_X5_174 : Cond.methodLink RX5 174 yX5_counted ∈ lw_tbl := t4 (List.mem_of_getElem? (i := 191) rfl)
set_option maxRecDepth 20000 in
theorem ml_X5_177 : Cond.methodLink RX5 177 (⟨"[I", "clone", "()Ljava/lang/Object;"⟩ : MethodName) ∈ lw_tbl := t4 (List.mem_of_getElem? (i := 199) rfl)
set_option maxRecDepth 20000 in
theorem kl_X5_178 : Cond.classLink RX5 178 "[I" ∈ lw_tbl := t4 (List.mem_of_getElem? (i := 205) rfl)
set_option maxRecDepth 20000 in
theorem ml_X5_182 : Cond.methodLink RX5 182 yX4_pass_ ∈ lw_tbl := t4 (List.mem_of_getElem? (i := 206) rfl)
set_option maxRecDepth 20000 in
theorem cl_X5_186 : Cond.constantLong RX5 186 1237 ∈ lw_tbl := t4 (List.mem_of_getElem? (i := 227) rfl)
set_option maxRecDepth 20000 in
theorem cl_X5_188 : Cond.constantLong RX5 188 31 ∈ lw_tbl := t4 (List.mem_of_getElem? (i := 228) rfl)
set_option maxRecDepth 20000 in
theorem ml_X0_3 : Cond.methodLink RX0 3 Lib.objectInit ∈ lw_tbl := t1 (List.mem_of_getElem? (i := 99) rfl)
set_option maxRecDepth 20000 in
theorem fl_X0_9 : FL RX0 9 0 0 (.array .int) true := ⟨RX0, TX0, 7, tyX0, rfl, by decide, i_X0, rfl, tyX0_ok, nmX0, rfl, rfl, Or.inl (t1 (List.mem_of_getElem? (i := 100) rfl))⟩
set_option maxRecDepth 20000 in
theorem fo_X0_9 : FLo RX0 9 0 0 (.array .int) := ⟨RX0, TX0, 7, tyX0, rfl, by decide, i_X0, rfl, tyX0_ok, nmX0, rfl, rfl, t1 (List.mem_of_getElem? (i := 100) rfl), rfl⟩
set_option maxRecDepth 20000 in
theorem fl_X0_15 : FL RX0 15 0 1 (.array .int) true := ⟨RX0, TX0, 7, tyX0, rfl, by decide, i_X0, rfl, tyX0_ok, nmX0, rfl, rfl, Or.inl (t1 (List.mem_of_getElem? (i := 101) rfl))⟩
set_option maxRecDepth 20000 in
theorem fo_X0_15 : FLo RX0 15 0 1 (.array .int) := ⟨RX0, TX0, 7, tyX0, rfl, by decide, i_X0, rfl, tyX0_ok, nmX0, rfl, rfl, t1 (List.mem_of_getElem? (i := 101) rfl), rfl⟩
set_option maxRecDepth 20000 in
theorem fl_X0_18 : FL RX0 18 0 3 .int false := ⟨RX0, TX0, 7, tyX0, rfl, by decide, i_X0, rfl, tyX0_ok, nmX0, rfl, rfl, Or.inl (t1 (List.mem_of_getElem? (i := 106) rfl))⟩
set_option maxRecDepth 20000 in
theorem fl_X0_22 : FL RX0 22 0 4 .int false := ⟨RX0, TX0, 7, tyX0, rfl, by decide, i_X0, rfl, tyX0_ok, nmX0, rfl, rfl, Or.inl (t1 (List.mem_of_getElem? (i := 108) rfl))⟩
set_option maxRecDepth 20000 in
theorem fl_X0_25 : FL RX0 25 0 6 .int false := ⟨RX0, TX0, 7, tyX0, rfl, by decide, i_X0, rfl, tyX0_ok, nmX0, rfl, rfl, Or.inl (t1 (List.mem_of_getElem? (i := 110) rfl))⟩
set_option maxRecDepth 20000 in
theorem fl_X0_28 : FL RX0 28 0 2 .int false := ⟨RX0, TX0, 7, tyX0, rfl, by decide, i_X0, rfl, tyX0_ok, nmX0, rfl, rfl, Or.inl (t1 (List.mem_of_getElem? (i := 103) rfl))⟩
set_option maxRecDepth 20000 in
theorem ml_X0_31 : Cond.methodLink RX0 31 yJ7_fill_53178 ∈ lw_tbl := t3 (List.mem_of_getElem? (i := 0) rfl)
set_option maxRecDepth 20000 in
theorem ml_X0_37 : Cond.methodLink RX0 37 yX1_begin ∈ lw_tbl := t3 (List.mem_of_getElem? (i := 3) rfl)
set_option maxRecDepth 20000 in
theorem ml_X0_42 : Cond.methodLink RX0 42 yX0_goThroughLead ∈ lw_tbl := t3 (List.mem_of_getElem? (i := 14) rfl)
set_option maxRecDepth 20000 in
theorem ml_X0_46 : Cond.methodLink RX0 46 yX1_bellsAtHome ∈ lw_tbl := t3 (List.mem_of_getElem? (i := 29) rfl)
set_option maxRecDepth 20000 in
theorem ml_X0_50 : Cond.methodLink RX0 50 yX1_isRounds ∈ lw_tbl := t3 (List.mem_of_getElem? (i := 33) rfl)
set_option maxRecDepth 20000 in
theorem ml_X0_54 : Cond.methodLink RX0 54 yX1_differentRows ∈ lw_tbl := t3 (List.mem_of_getElem? (i := 38) rfl)
set_option maxRecDepth 20000 in
theorem ml_X0_57 : Cond.methodLink RX0 57 yX1_falseRows ∈ lw_tbl := t3 (List.mem_of_getElem? (i := 42) rfl)
set_option maxRecDepth 20000 in
theorem fl_X0_60 : FL RX0 60 0 5 .int false := ⟨RX0, TX0, 7, tyX0, rfl, by decide, i_X0, rfl, tyX0_ok, nmX0, rfl, rfl, Or.inl (t1 (List.mem_of_getElem? (i := 109) rfl))⟩
set_option maxRecDepth 20000 in
theorem ml_X0_63 : Cond.methodLink RX0 63 yX1_makeChange ∈ lw_tbl := t3 (List.mem_of_getElem? (i := 18) rfl)
set_option maxRecDepth 20000 in
theorem ml_X0_67 : Cond.methodLink RX0 67 yX1_hasDodged ∈ lw_tbl := t3 (List.mem_of_getElem? (i := 25) rfl)
set_option maxRecDepth 20000 in
theorem ml_X0_71 : Cond.methodLink RX0 71 yX0_allDodges ∈ lw_tbl := t2 (List.mem_of_getElem? (i := 94) rfl)
set_option maxRecDepth 20000 in
theorem ml_X1_3 : Cond.methodLink RX1 3 Lib.objectInit ∈ lw_tbl := t1 (List.mem_of_getElem? (i := 72) rfl)
set_option maxRecDepth 20000 in
theorem fl_X1_9 : FL RX1 9 1 0 (.array .int) true := ⟨RX1, TX1, 6, tyX1, rfl, by decide, i_X1, rfl, tyX1_ok, nmX1, rfl, rfl, Or.inl (t1 (List.mem_of_getElem? (i := 73) rfl))⟩
set_option maxRecDepth 20000 in
theorem fo_X1_9 : FLo RX1 9 1 0 (.array .int) := ⟨RX1, TX1, 6, tyX1, rfl, by decide, i_X1, rfl, tyX1_ok, nmX1, rfl, rfl, t1 (List.mem_of_getElem? (i := 73) rfl), rfl⟩
set_option maxRecDepth 20000 in
theorem fl_X1_15 : FL RX1 15 1 1 (.array .int) true := ⟨RX1, TX1, 6, tyX1, rfl, by decide, i_X1, rfl, tyX1_ok, nmX1, rfl, rfl, Or.inl (t1 (List.mem_of_getElem? (i := 74) rfl))⟩
set_option maxRecDepth 20000 in
theorem fo_X1_15 : FLo RX1 15 1 1 (.array .int) := ⟨RX1, TX1, 6, tyX1, rfl, by decide, i_X1, rfl, tyX1_ok, nmX1, rfl, rfl, t1 (List.mem_of_getElem? (i := 74) rfl), rfl⟩
set_option maxRecDepth 20000 in
theorem fl_X1_18 : FL RX1 18 1 2 (.array .int) true := ⟨RX1, TX1, 6, tyX1, rfl, by decide, i_X1, rfl, tyX1_ok, nmX1, rfl, rfl, Or.inl (t1 (List.mem_of_getElem? (i := 75) rfl))⟩
set_option maxRecDepth 20000 in
theorem fo_X1_18 : FLo RX1 18 1 2 (.array .int) := ⟨RX1, TX1, 6, tyX1, rfl, by decide, i_X1, rfl, tyX1_ok, nmX1, rfl, rfl, t1 (List.mem_of_getElem? (i := 75) rfl), rfl⟩
set_option maxRecDepth 20000 in
theorem fl_X1_21 : FL RX1 21 1 3 (.array .long) true := ⟨RX1, TX1, 6, tyX1, rfl, by decide, i_X1, rfl, tyX1_ok, nmX1, rfl, rfl, Or.inl (t1 (List.mem_of_getElem? (i := 76) rfl))⟩
set_option maxRecDepth 20000 in
theorem fo_X1_21 : FLo RX1 21 1 3 (.array .long) := ⟨RX1, TX1, 6, tyX1, rfl, by decide, i_X1, rfl, tyX1_ok, nmX1, rfl, rfl, t1 (List.mem_of_getElem? (i := 76) rfl), rfl⟩
set_option maxRecDepth 20000 in
theorem ml_X1_25 : Cond.methodLink RX1 25 yJ7_fill_d0a16 ∈ lw_tbl := t3 (List.mem_of_getElem? (i := 7) rfl)
set_option maxRecDepth 20000 in
theorem fl_X1_31 : FL RX1 31 1 4 .int false := ⟨RX1, TX1, 6, tyX1, rfl, by decide, i_X1, rfl, tyX1_ok, nmX1, rfl, rfl, Or.inl (t1 (List.mem_of_getElem? (i := 77) rfl))⟩
set_option maxRecDepth 20000 in
theorem fl_X1_35 : FL RX1 35 1 5 .int false := ⟨RX1, TX1, 6, tyX1, rfl, by decide, i_X1, rfl, tyX1_ok, nmX1, rfl, rfl, Or.inl (t1 (List.mem_of_getElem? (i := 78) rfl))⟩
set_option maxRecDepth 20000 in
theorem ml_X1_38 : Cond.methodLink RX1 38 yX1_noteRow ∈ lw_tbl := t3 (List.mem_of_getElem? (i := 10) rfl)
set_option maxRecDepth 20000 in
theorem ml_X1_41 : Cond.methodLink RX1 41 yX1_moveFrom ∈ lw_tbl := t3 (List.mem_of_getElem? (i := 22) rfl)
set_option maxRecDepth 20000 in
theorem ml_X1_45 : Cond.methodLink RX1 45 yX1_bellsAtHome ∈ lw_tbl := t3 (List.mem_of_getElem? (i := 37) rfl)
set_option maxRecDepth 20000 in
theorem ml_X1_49 : Cond.methodLink RX1 49 yX1_isRounds ∈ lw_tbl := t3 (List.mem_of_getElem? (i := 46) rfl)
set_option maxRecDepth 20000 in
theorem ml_X1_53 : Cond.methodLink RX1 53 yX1_bellAt ∈ lw_tbl := t3 (List.mem_of_getElem? (i := 65) rfl)
set_option maxRecDepth 20000 in
theorem ml_X2_3 : Cond.methodLink RX2 3 Lib.objectInit ∈ lw_tbl := t1 (List.mem_of_getElem? (i := 29) rfl)
set_option maxRecDepth 20000 in
theorem fl_X2_9 : FL RX2 9 2 0 (.array .int) true := ⟨RX2, TX2, 10, tyX2, rfl, by decide, i_X2, rfl, tyX2_ok, nmX2, rfl, rfl, Or.inl (t1 (List.mem_of_getElem? (i := 30) rfl))⟩
set_option maxRecDepth 20000 in
theorem fo_X2_9 : FLo RX2 9 2 0 (.array .int) := ⟨RX2, TX2, 10, tyX2, rfl, by decide, i_X2, rfl, tyX2_ok, nmX2, rfl, rfl, t1 (List.mem_of_getElem? (i := 30) rfl), rfl⟩
set_option maxRecDepth 20000 in
theorem fl_X2_15 : FL RX2 15 2 1 (.array .int) true := ⟨RX2, TX2, 10, tyX2, rfl, by decide, i_X2, rfl, tyX2_ok, nmX2, rfl, rfl, Or.inl (t1 (List.mem_of_getElem? (i := 31) rfl))⟩
set_option maxRecDepth 20000 in
theorem fo_X2_15 : FLo RX2 15 2 1 (.array .int) := ⟨RX2, TX2, 10, tyX2, rfl, by decide, i_X2, rfl, tyX2_ok, nmX2, rfl, rfl, t1 (List.mem_of_getElem? (i := 31) rfl), rfl⟩
set_option maxRecDepth 20000 in
theorem fl_X2_18 : FL RX2 18 2 2 (.array .int) true := ⟨RX2, TX2, 10, tyX2, rfl, by decide, i_X2, rfl, tyX2_ok, nmX2, rfl, rfl, Or.inl (t1 (List.mem_of_getElem? (i := 32) rfl))⟩
set_option maxRecDepth 20000 in
theorem fo_X2_18 : FLo RX2 18 2 2 (.array .int) := ⟨RX2, TX2, 10, tyX2, rfl, by decide, i_X2, rfl, tyX2_ok, nmX2, rfl, rfl, t1 (List.mem_of_getElem? (i := 32) rfl), rfl⟩
set_option maxRecDepth 20000 in
theorem fl_X2_21 : FL RX2 21 2 3 (.array .int) true := ⟨RX2, TX2, 10, tyX2, rfl, by decide, i_X2, rfl, tyX2_ok, nmX2, rfl, rfl, Or.inl (t1 (List.mem_of_getElem? (i := 34) rfl))⟩
set_option maxRecDepth 20000 in
theorem fo_X2_21 : FLo RX2 21 2 3 (.array .int) := ⟨RX2, TX2, 10, tyX2, rfl, by decide, i_X2, rfl, tyX2_ok, nmX2, rfl, rfl, t1 (List.mem_of_getElem? (i := 34) rfl), rfl⟩
set_option maxRecDepth 20000 in
theorem fl_X2_24 : FL RX2 24 2 4 (.array .int) true := ⟨RX2, TX2, 10, tyX2, rfl, by decide, i_X2, rfl, tyX2_ok, nmX2, rfl, rfl, Or.inl (t1 (List.mem_of_getElem? (i := 35) rfl))⟩
set_option maxRecDepth 20000 in
theorem fo_X2_24 : FLo RX2 24 2 4 (.array .int) := ⟨RX2, TX2, 10, tyX2, rfl, by decide, i_X2, rfl, tyX2_ok, nmX2, rfl, rfl, t1 (List.mem_of_getElem? (i := 35) rfl), rfl⟩
set_option maxRecDepth 20000 in
theorem fl_X2_27 : FL RX2 27 2 5 (.array .int) true := ⟨RX2, TX2, 10, tyX2, rfl, by decide, i_X2, rfl, tyX2_ok, nmX2, rfl, rfl, Or.inl (t1 (List.mem_of_getElem? (i := 36) rfl))⟩
set_option maxRecDepth 20000 in
theorem fo_X2_27 : FLo RX2 27 2 5 (.array .int) := ⟨RX2, TX2, 10, tyX2, rfl, by decide, i_X2, rfl, tyX2_ok, nmX2, rfl, rfl, t1 (List.mem_of_getElem? (i := 36) rfl), rfl⟩
set_option maxRecDepth 20000 in
theorem fl_X2_30 : FL RX2 30 2 6 (.array .int) true := ⟨RX2, TX2, 10, tyX2, rfl, by decide, i_X2, rfl, tyX2_ok, nmX2, rfl, rfl, Or.inl (t1 (List.mem_of_getElem? (i := 37) rfl))⟩
set_option maxRecDepth 20000 in
theorem fo_X2_30 : FLo RX2 30 2 6 (.array .int) := ⟨RX2, TX2, 10, tyX2, rfl, by decide, i_X2, rfl, tyX2_ok, nmX2, rfl, rfl, t1 (List.mem_of_getElem? (i := 37) rfl), rfl⟩
set_option maxRecDepth 20000 in
theorem fl_X2_33 : FL RX2 33 2 7 (.array .int) true := ⟨RX2, TX2, 10, tyX2, rfl, by decide, i_X2, rfl, tyX2_ok, nmX2, rfl, rfl, Or.inl (t1 (List.mem_of_getElem? (i := 39) rfl))⟩
set_option maxRecDepth 20000 in
theorem fo_X2_33 : FLo RX2 33 2 7 (.array .int) := ⟨RX2, TX2, 10, tyX2, rfl, by decide, i_X2, rfl, tyX2_ok, nmX2, rfl, rfl, t1 (List.mem_of_getElem? (i := 39) rfl), rfl⟩
set_option maxRecDepth 20000 in
theorem ml_X2_36 : Cond.methodLink RX2 36 arraycopyName ∈ lw_tbl := t2 (List.mem_of_getElem? (i := 67) rfl)
set_option maxRecDepth 20000 in
theorem fl_X2_42 : FL RX2 42 2 8 .int false := ⟨RX2, TX2, 10, tyX2, rfl, by decide, i_X2, rfl, tyX2_ok, nmX2, rfl, rfl, Or.inl (t1 (List.mem_of_getElem? (i := 42) rfl))⟩
set_option maxRecDepth 20000 in
theorem fl_X2_46 : FL RX2 46 2 9 .int false := ⟨RX2, TX2, 10, tyX2, rfl, by decide, i_X2, rfl, tyX2_ok, nmX2, rfl, rfl, Or.inl (t1 (List.mem_of_getElem? (i := 43) rfl))⟩
set_option maxRecDepth 20000 in
theorem ml_X2_49 : Cond.methodLink RX2 49 Lib.Math.min.name ∈ lw_tbl := t2 (List.mem_of_getElem? (i := 166) rfl)
set_option maxRecDepth 20000 in
theorem ml_X2_55 : Cond.methodLink RX2 55 Lib.Math.max.name ∈ lw_tbl := t2 (List.mem_of_getElem? (i := 169) rfl)
set_option maxRecDepth 20000 in
theorem ml_X2_58 : Cond.methodLink RX2 58 yX2_ringsBell ∈ lw_tbl := t1 (List.mem_of_getElem? (i := 164) rfl)
set_option maxRecDepth 20000 in
theorem ml_X2_62 : Cond.methodLink RX2 62 yX2_bandOf ∈ lw_tbl := t1 (List.mem_of_getElem? (i := 160) rfl)
set_option maxRecDepth 20000 in
theorem ml_X2_66 : Cond.methodLink RX2 66 yX2_bellOf ∈ lw_tbl := t2 (List.mem_of_getElem? (i := 37) rfl)
set_option maxRecDepth 20000 in
theorem ml_X2_69 : Cond.methodLink RX2 69 yX2_rankOf ∈ lw_tbl := t2 (List.mem_of_getElem? (i := 41) rfl)
set_option maxRecDepth 20000 in
theorem ml_X2_72 : Cond.methodLink RX2 72 yX2_electTo ∈ lw_tbl := t2 (List.mem_of_getElem? (i := 74) rfl)
set_option maxRecDepth 20000 in
theorem ml_X2_76 : Cond.methodLink RX2 76 yX2_ringersIn ∈ lw_tbl := t1 (List.mem_of_getElem? (i := 156) rfl)
set_option maxRecDepth 20000 in
theorem ml_X2_79 : Cond.methodLink RX2 79 yJ7_fill_53178 ∈ lw_tbl := t3 (List.mem_of_getElem? (i := 93) rfl)
set_option maxRecDepth 20000 in
theorem ml_X2_85 : Cond.methodLink RX2 85 yX1_begin ∈ lw_tbl := t3 (List.mem_of_getElem? (i := 94) rfl)
set_option maxRecDepth 20000 in
theorem fl_X2_90 : FL RX2 90 0 2 .int false := ⟨RX0, TX0, 7, tyX0, rfl, by decide, i_X0, rfl, tyX0_ok, nmX0, rfl, rfl, Or.inr ⟨"BellRoster", t1 (List.mem_of_getElem? (i := 105) rfl)⟩⟩
set_option maxRecDepth 20000 in
theorem ml_X2_95 : Cond.methodLink RX2 95 yX0_changeAt ∈ lw_tbl := t3 (List.mem_of_getElem? (i := 95) rfl)
set_option maxRecDepth 20000 in
theorem ml_X2_98 : Cond.methodLink RX2 98 yX1_makeChange ∈ lw_tbl := t3 (List.mem_of_getElem? (i := 96) rfl)
set_option maxRecDepth 20000 in
theorem ml_X2_101 : Cond.methodLink RX2 101 yX2_tireDodgers ∈ lw_tbl := t3 (List.mem_of_getElem? (i := 97) rfl)
set_option maxRecDepth 20000 in
theorem ml_X2_105 : Cond.methodLink RX2 105 yX1_falseRows ∈ lw_tbl := t3 (List.mem_of_getElem? (i := 106) rfl)
set_option maxRecDepth 20000 in
theorem ml_X2_109 : Cond.methodLink RX2 109 yX1_isRounds ∈ lw_tbl := t3 (List.mem_of_getElem? (i := 107) rfl)
set_option maxRecDepth 20000 in
theorem ml_X2_113 : Cond.methodLink RX2 113 yX2_changeVotes ∈ lw_tbl := t3 (List.mem_of_getElem? (i := 108) rfl)
set_option maxRecDepth 20000 in
theorem ml_X2_117 : Cond.methodLink RX2 117 yX1_hasDodged ∈ lw_tbl := t3 (List.mem_of_getElem? (i := 101) rfl)
set_option maxRecDepth 20000 in
theorem ml_X2_120 : Cond.methodLink RX2 120 yX2_tire ∈ lw_tbl := t3 (List.mem_of_getElem? (i := 102) rfl)
set_option maxRecDepth 20000 in
theorem ml_X2_123 : Cond.methodLink RX2 123 yX2_passDay ∈ lw_tbl := t3 (List.mem_of_getElem? (i := 142) rfl)
set_option maxRecDepth 20000 in
theorem ml_X2_126 : Cond.methodLink RX2 126 yX2_electBand ∈ lw_tbl := t3 (List.mem_of_getElem? (i := 146) rfl)
set_option maxRecDepth 20000 in
theorem fl_X4_3 : FL RX4 3 4 5 (.object "BellRosterModel") true := ⟨RX4, TX4, 6, tyX4, rfl, by decide, i_X4, rfl, tyX4_ok, nmX4, rfl, rfl, Or.inl (t3 (List.mem_of_getElem? (i := 180) rfl))⟩
set_option maxRecDepth 20000 in
theorem fo_X4_3 : FLo RX4 3 4 5 (.object "BellRosterModel") := ⟨RX4, TX4, 6, tyX4, rfl, by decide, i_X4, rfl, tyX4_ok, nmX4, rfl, rfl, t3 (List.mem_of_getElem? (i := 180) rfl), rfl⟩
set_option maxRecDepth 20000 in
theorem ml_X4_9 : Cond.methodLink RX4 9 Lib.objectInit ∈ lw_tbl := t3 (List.mem_of_getElem? (i := 169) rfl)
set_option maxRecDepth 20000 in
theorem fl_X4_15 : FL RX4 15 4 1 (.array .int) true := ⟨RX4, TX4, 6, tyX4, rfl, by decide, i_X4, rfl, tyX4_ok, nmX4, rfl, rfl, Or.inl (t3 (List.mem_of_getElem? (i := 172) rfl))⟩
set_option maxRecDepth 20000 in
theorem fo_X4_15 : FLo RX4 15 4 1 (.array .int) := ⟨RX4, TX4, 6, tyX4, rfl, by decide, i_X4, rfl, tyX4_ok, nmX4, rfl, rfl, t3 (List.mem_of_getElem? (i := 172) rfl), rfl⟩
set_option maxRecDepth 20000 in
theorem fl_X4_19 : FL RX4 19 4 2 (.array .int) true := ⟨RX4, TX4, 6, tyX4, rfl, by decide, i_X4, rfl, tyX4_ok, nmX4, rfl, rfl, Or.inl (t3 (List.mem_of_getElem? (i := 174) rfl))⟩
set_option maxRecDepth 20000 in
theorem fo_X4_19 : FLo RX4 19 4 2 (.array .int) := ⟨RX4, TX4, 6, tyX4, rfl, by decide, i_X4, rfl, tyX4_ok, nmX4, rfl, rfl, t3 (List.mem_of_getElem? (i := 174) rfl), rfl⟩
set_option maxRecDepth 20000 in
theorem fl_X4_22 : FL RX4 22 4 3 (.array .int) true := ⟨RX4, TX4, 6, tyX4, rfl, by decide, i_X4, rfl, tyX4_ok, nmX4, rfl, rfl, Or.inl (t3 (List.mem_of_getElem? (i := 176) rfl))⟩
set_option maxRecDepth 20000 in
theorem fo_X4_22 : FLo RX4 22 4 3 (.array .int) := ⟨RX4, TX4, 6, tyX4, rfl, by decide, i_X4, rfl, tyX4_ok, nmX4, rfl, rfl, t3 (List.mem_of_getElem? (i := 176) rfl), rfl⟩
set_option maxRecDepth 20000 in
theorem fl_X4_25 : FL RX4 25 4 4 (.array .int) true := ⟨RX4, TX4, 6, tyX4, rfl, by decide, i_X4, rfl, tyX4_ok, nmX4, rfl, rfl, Or.inl (t3 (List.mem_of_getElem? (i := 178) rfl))⟩
set_option maxRecDepth 20000 in
theorem fo_X4_25 : FLo RX4 25 4 4 (.array .int) := ⟨RX4, TX4, 6, tyX4, rfl, by decide, i_X4, rfl, tyX4_ok, nmX4, rfl, rfl, t3 (List.mem_of_getElem? (i := 178) rfl), rfl⟩
set_option maxRecDepth 20000 in
theorem ml_X4_28 : Cond.methodLink RX4 28 arraycopyName ∈ lw_tbl := t4 (List.mem_of_getElem? (i := 97) rfl)
set_option maxRecDepth 20000 in
theorem fl_X4_34 : FL RX4 34 4 0 .int false := ⟨RX4, TX4, 6, tyX4, rfl, by decide, i_X4, rfl, tyX4_ok, nmX4, rfl, rfl, Or.inl (t3 (List.mem_of_getElem? (i := 170) rfl))⟩
set_option maxRecDepth 20000 in
theorem ml_X4_38 : Cond.methodLink RX4 38 yX4_copy ∈ lw_tbl := t4 (List.mem_of_getElem? (i := 93) rfl)
set_option maxRecDepth 20000 in
theorem fl_X4_42 : FL RX4 42 5 1 .int false := ⟨RX5, TX5, 18, tyX5, rfl, by decide, i_X5, rfl, tyX5_ok, nmX5, rfl, rfl, Or.inr ⟨"BellRosterModel", t3 (List.mem_of_getElem? (i := 195) rfl)⟩⟩
set_option maxRecDepth 20000 in
theorem fl_X4_45 : FL RX4 45 5 2 (.array .int) true := ⟨RX5, TX5, 18, tyX5, rfl, by decide, i_X5, rfl, tyX5_ok, nmX5, rfl, rfl, Or.inr ⟨"BellRosterModel", t3 (List.mem_of_getElem? (i := 198) rfl)⟩⟩
set_option maxRecDepth 20000 in
theorem fl_X4_48 : FL RX4 48 5 4 (.array .int) true := ⟨RX5, TX5, 18, tyX5, rfl, by decide, i_X5, rfl, tyX5_ok, nmX5, rfl, rfl, Or.inr ⟨"BellRosterModel", t3 (List.mem_of_getElem? (i := 202) rfl)⟩⟩
set_option maxRecDepth 20000 in
theorem fl_X4_51 : FL RX4 51 5 6 (.array .int) true := ⟨RX5, TX5, 18, tyX5, rfl, by decide, i_X5, rfl, tyX5_ok, nmX5, rfl, rfl, Or.inr ⟨"BellRosterModel", t3 (List.mem_of_getElem? (i := 205) rfl)⟩⟩
set_option maxRecDepth 20000 in
theorem ml_X4_54 : Cond.methodLink RX4 54 yX4_manned ∈ lw_tbl := t4 (List.mem_of_getElem? (i := 162) rfl)
set_option maxRecDepth 20000 in
theorem mn_X4_58 : Cond.methodLinkNest RX4 58 yX5_walk "BellRosterModel" ∈ lw_tbl := t4 (List.mem_of_getElem? (i := 167) rfl)
set_option maxRecDepth 20000 in
theorem mn_X4_62 : Cond.methodLinkNest RX4 62 yX5_untrue "BellRosterModel" ∈ lw_tbl := t4 (List.mem_of_getElem? (i := 168) rfl)
set_option maxRecDepth 20000 in
theorem fl_X4_66 : FL RX4 66 5 10 (.array .int) true := ⟨RX5, TX5, 18, tyX5, rfl, by decide, i_X5, rfl, tyX5_ok, nmX5, rfl, rfl, Or.inr ⟨"BellRosterModel", t3 (List.mem_of_getElem? (i := 210) rfl)⟩⟩
set_option maxRecDepth 20000 in
theorem fl_X4_69 : FL RX4 69 5 12 .int false := ⟨RX5, TX5, 18, tyX5, rfl, by decide, i_X5, rfl, tyX5_ok, nmX5, rfl, rfl, Or.inr ⟨"BellRosterModel", t3 (List.mem_of_getElem? (i := 213) rfl)⟩⟩
set_option maxRecDepth 20000 in
theorem fl_X4_72 : FL RX4 72 5 11 (.array .int) true := ⟨RX5, TX5, 18, tyX5, rfl, by decide, i_X5, rfl, tyX5_ok, nmX5, rfl, rfl, Or.inr ⟨"BellRosterModel", t3 (List.mem_of_getElem? (i := 212) rfl)⟩⟩
set_option maxRecDepth 20000 in
theorem ml_X4_75 : Cond.methodLink RX4 75 Lib.Math.min.name ∈ lw_tbl := t4 (List.mem_of_getElem? (i := 169) rfl)
set_option maxRecDepth 20000 in
theorem fl_X4_81 : FL RX4 81 5 3 (.array .int) true := ⟨RX5, TX5, 18, tyX5, rfl, by decide, i_X5, rfl, tyX5_ok, nmX5, rfl, rfl, Or.inr ⟨"BellRosterModel", t3 (List.mem_of_getElem? (i := 200) rfl)⟩⟩
set_option maxRecDepth 20000 in
theorem ml_X4_84 : Cond.methodLink RX4 84 Lib.Math.max.name ∈ lw_tbl := t4 (List.mem_of_getElem? (i := 170) rfl)
set_option maxRecDepth 20000 in
theorem ml_X4_87 : Cond.methodLink RX4 87 yX4_elect ∈ lw_tbl := t4 (List.mem_of_getElem? (i := 214) rfl)
set_option maxRecDepth 20000 in
theorem ml_X4_91 : Cond.methodLink RX4 91 yX4_pass ∈ lw_tbl := t4 (List.mem_of_getElem? (i := 210) rfl)
set_option maxRecDepth 20000 in
theorem ml_L_7 : Cond.methodLink RL 7 yX3_ringer ∈ lw_tbl := t2 (List.mem_of_getElem? (i := 112) rfl)
set_option maxRecDepth 20000 in
theorem ml_L_19 : Cond.methodLink RL 19 yX3_vote ∈ lw_tbl := t2 (List.mem_of_getElem? (i := 158) rfl)
set_option maxRecDepth 20000 in
theorem ml_L_23 : Cond.methodLink RL 23 yX3_seat ∈ lw_tbl := t2 (List.mem_of_getElem? (i := 175) rfl)
set_option maxRecDepth 20000 in
theorem ml_L_26 : Cond.methodLink RL 26 yX3_elect ∈ lw_tbl := t2 (List.mem_of_getElem? (i := 182) rfl)
set_option maxRecDepth 20000 in
theorem ml_L_30 : Cond.methodLink RL 30 yX3_put ∈ lw_tbl := t2 (List.mem_of_getElem? (i := 190) rfl)
set_option maxRecDepth 20000 in
theorem ml_L_33 : Cond.methodLink RL 33 yX3_leave ∈ lw_tbl := t2 (List.mem_of_getElem? (i := 200) rfl)
set_option maxRecDepth 20000 in
theorem ml_L_36 : Cond.methodLink RL 36 yX3_told ∈ lw_tbl := t2 (List.mem_of_getElem? (i := 210) rfl)
set_option maxRecDepth 20000 in
theorem ml_L_39 : Cond.methodLink RL 39 yX3_bell ∈ lw_tbl := t2 (List.mem_of_getElem? (i := 214) rfl)
set_option maxRecDepth 20000 in
theorem ml_L_42 : Cond.methodLink RL 42 yX3_method ∈ lw_tbl := t2 (List.mem_of_getElem? (i := 218) rfl)
set_option maxRecDepth 20000 in
theorem ml_L_46 : Cond.methodLink RL 46 yX3_add ∈ lw_tbl := t2 (List.mem_of_getElem? (i := 226) rfl)
set_option maxRecDepth 20000 in
theorem ml_L_49 : Cond.methodLink RL 49 yX3_about ∈ lw_tbl := t3 (List.mem_of_getElem? (i := 50) rfl)
set_option maxRecDepth 20000 in
theorem ml_L_52 : Cond.methodLink RL 52 yX3_row ∈ lw_tbl := t3 (List.mem_of_getElem? (i := 54) rfl)
set_option maxRecDepth 20000 in
theorem ml_L_55 : Cond.methodLink RL 55 yX3_dodges ∈ lw_tbl := t3 (List.mem_of_getElem? (i := 72) rfl)
set_option maxRecDepth 20000 in
theorem ml_L_58 : Cond.methodLink RL 58 yX3_ring ∈ lw_tbl := t3 (List.mem_of_getElem? (i := 76) rfl)
set_option maxRecDepth 20000 in
theorem ml_L_61 : Cond.methodLink RL 61 yX3_would ∈ lw_tbl := t3 (List.mem_of_getElem? (i := 112) rfl)
set_option maxRecDepth 20000 in
theorem ml_L_64 : Cond.methodLink RL 64 yX3_advise ∈ lw_tbl := t3 (List.mem_of_getElem? (i := 123) rfl)
set_option maxRecDepth 20000 in
theorem ml_L_67 : Cond.methodLink RL 67 yX3_count ∈ lw_tbl := t3 (List.mem_of_getElem? (i := 130) rfl)
set_option maxRecDepth 20000 in
theorem ml_L_70 : Cond.methodLink RL 70 yX3_pass ∈ lw_tbl := t3 (List.mem_of_getElem? (i := 134) rfl)
set_option maxRecDepth 20000 in
theorem ml_L_73 : Cond.methodLink RL 73 yX3_foresee ∈ lw_tbl := t3 (List.mem_of_getElem? (i := 154) rfl)
set_option maxRecDepth 20000 in
theorem nl_L_8 : NL RL 8 3 7 [.null, .null, .null, .null, .int 0, .int 0, .int 0] := ⟨RX3, TX3, tyX3, rfl, i_X3, tyX3_ok, (fun j hj => by rcases (show j = 0 ∨ j = 1 ∨ j = 2 ∨ j = 3 ∨ j = 4 ∨ j = 5 ∨ j = 6 by omega) with rfl | rfl | rfl | rfl | rfl | rfl | rfl <;> rfl), rfl, t1 (List.mem_of_getElem? (i := 16) rfl), t1 (List.mem_of_getElem? (i := 17) rfl), t1 (List.mem_of_getElem? (i := 1) rfl)⟩
set_option maxRecDepth 20000 in
theorem ml_L_76 : Cond.methodLink RL 76 yX3_init ∈ lw_tbl := t1 (List.mem_of_getElem? (i := 18) rfl)
set_option maxRecDepth 20000 in
theorem nl_L_77 : NL RL 77 5 18 [.int 0, .int 0, .null, .null, .null, .int 0, .null, .null, .int 0, .int 0, .null, .null, .int 0, .null, .null, .null, .null, .null] := ⟨RX5, TX5, tyX5, rfl, i_X5, tyX5_ok, (fun j hj => by rcases (show j = 0 ∨ j = 1 ∨ j = 2 ∨ j = 3 ∨ j = 4 ∨ j = 5 ∨ j = 6 ∨ j = 7 ∨ j = 8 ∨ j = 9 ∨ j = 10 ∨ j = 11 ∨ j = 12 ∨ j = 13 ∨ j = 14 ∨ j = 15 ∨ j = 16 ∨ j = 17 by omega) with rfl | rfl | rfl | rfl | rfl | rfl | rfl | rfl | rfl | rfl | rfl | rfl | rfl | rfl | rfl | rfl | rfl | rfl <;> rfl), rfl, t3 (List.mem_of_getElem? (i := 158) rfl), t3 (List.mem_of_getElem? (i := 159) rfl), t1 (List.mem_of_getElem? (i := 5) rfl)⟩
set_option maxRecDepth 20000 in
theorem ml_L_79 : Cond.methodLink RL 79 yX5_init ∈ lw_tbl := t3 (List.mem_of_getElem? (i := 160) rfl)
set_option maxRecDepth 20000 in
theorem ml_L_80 : Cond.methodLink RL 80 yL_ringer ∈ lw_tbl := t2 (List.mem_of_getElem? (i := 106) rfl)
set_option maxRecDepth 20000 in
theorem ml_L_85 : Cond.methodLink RL 85 yX5_ringer ∈ lw_tbl := t4 (List.mem_of_getElem? (i := 21) rfl)
set_option maxRecDepth 20000 in
theorem ml_L_86 : Cond.methodLink RL 86 yX5_thrown ∈ lw_tbl := t4 (List.mem_of_getElem? (i := 17) rfl)
set_option maxRecDepth 20000 in
theorem ml_L_89 : Cond.methodLink RL 89 yL_vote ∈ lw_tbl := t2 (List.mem_of_getElem? (i := 155) rfl)
set_option maxRecDepth 20000 in
theorem ml_L_92 : Cond.methodLink RL 92 yX5_vote ∈ lw_tbl := t4 (List.mem_of_getElem? (i := 32) rfl)
set_option maxRecDepth 20000 in
theorem ml_L_93 : Cond.methodLink RL 93 yL_seat ∈ lw_tbl := t2 (List.mem_of_getElem? (i := 172) rfl)
set_option maxRecDepth 20000 in
theorem ml_L_95 : Cond.methodLink RL 95 yX5_seat ∈ lw_tbl := t4 (List.mem_of_getElem? (i := 42) rfl)
set_option maxRecDepth 20000 in
theorem ml_L_96 : Cond.methodLink RL 96 yL_elect ∈ lw_tbl := t2 (List.mem_of_getElem? (i := 179) rfl)
set_option maxRecDepth 20000 in
theorem ml_L_99 : Cond.methodLink RL 99 yX5_elect ∈ lw_tbl := t4 (List.mem_of_getElem? (i := 49) rfl)
set_option maxRecDepth 20000 in
theorem ml_L_100 : Cond.methodLink RL 100 yL_put ∈ lw_tbl := t2 (List.mem_of_getElem? (i := 187) rfl)
set_option maxRecDepth 20000 in
theorem ml_L_102 : Cond.methodLink RL 102 yX5_put ∈ lw_tbl := t4 (List.mem_of_getElem? (i := 61) rfl)
set_option maxRecDepth 20000 in
theorem ml_L_103 : Cond.methodLink RL 103 yL_leave ∈ lw_tbl := t2 (List.mem_of_getElem? (i := 197) rfl)
set_option maxRecDepth 20000 in
theorem ml_L_105 : Cond.methodLink RL 105 yX5_leave ∈ lw_tbl := t4 (List.mem_of_getElem? (i := 69) rfl)
set_option maxRecDepth 20000 in
theorem ml_L_106 : Cond.methodLink RL 106 yL_told ∈ lw_tbl := t2 (List.mem_of_getElem? (i := 207) rfl)
set_option maxRecDepth 20000 in
theorem ml_L_108 : Cond.methodLink RL 108 yX5_told ∈ lw_tbl := t4 (List.mem_of_getElem? (i := 73) rfl)
set_option maxRecDepth 20000 in
theorem ml_L_109 : Cond.methodLink RL 109 yL_bell ∈ lw_tbl := t2 (List.mem_of_getElem? (i := 211) rfl)
set_option maxRecDepth 20000 in
theorem ml_L_111 : Cond.methodLink RL 111 yX5_bell ∈ lw_tbl := t4 (List.mem_of_getElem? (i := 81) rfl)
set_option maxRecDepth 20000 in
theorem ml_L_112 : Cond.methodLink RL 112 yL_method ∈ lw_tbl := t2 (List.mem_of_getElem? (i := 215) rfl)
set_option maxRecDepth 20000 in
theorem ml_L_115 : Cond.methodLink RL 115 yX5_method ∈ lw_tbl := t4 (List.mem_of_getElem? (i := 98) rfl)
set_option maxRecDepth 20000 in
theorem ml_L_116 : Cond.methodLink RL 116 yL_add ∈ lw_tbl := t2 (List.mem_of_getElem? (i := 223) rfl)
set_option maxRecDepth 20000 in
theorem ml_L_118 : Cond.methodLink RL 118 yX5_add ∈ lw_tbl := t4 (List.mem_of_getElem? (i := 102) rfl)
set_option maxRecDepth 20000 in
theorem ml_L_119 : Cond.methodLink RL 119 yL_about ∈ lw_tbl := t3 (List.mem_of_getElem? (i := 47) rfl)
set_option maxRecDepth 20000 in
theorem ml_L_121 : Cond.methodLink RL 121 yX5_about ∈ lw_tbl := t4 (List.mem_of_getElem? (i := 110) rfl)
set_option maxRecDepth 20000 in
theorem ml_L_122 : Cond.methodLink RL 122 yL_row ∈ lw_tbl := t3 (List.mem_of_getElem? (i := 51) rfl)
set_option maxRecDepth 20000 in
theorem ml_L_124 : Cond.methodLink RL 124 yX5_row ∈ lw_tbl := t4 (List.mem_of_getElem? (i := 146) rfl)
set_option maxRecDepth 20000 in
theorem ml_L_125 : Cond.methodLink RL 125 yL_dodges ∈ lw_tbl := t3 (List.mem_of_getElem? (i := 69) rfl)
set_option maxRecDepth 20000 in
theorem ml_L_127 : Cond.methodLink RL 127 yX5_dodges ∈ lw_tbl := t4 (List.mem_of_getElem? (i := 150) rfl)
set_option maxRecDepth 20000 in
theorem ml_L_128 : Cond.methodLink RL 128 yL_ring ∈ lw_tbl := t3 (List.mem_of_getElem? (i := 73) rfl)
set_option maxRecDepth 20000 in
theorem ml_L_130 : Cond.methodLink RL 130 yX5_ring ∈ lw_tbl := t4 (List.mem_of_getElem? (i := 154) rfl)
set_option maxRecDepth 20000 in
theorem ml_L_131 : Cond.methodLink RL 131 yL_would ∈ lw_tbl := t3 (List.mem_of_getElem? (i := 109) rfl)
set_option maxRecDepth 20000 in
theorem ml_L_133 : Cond.methodLink RL 133 yX5_would ∈ lw_tbl := t4 (List.mem_of_getElem? (i := 171) rfl)
set_option maxRecDepth 20000 in
theorem ml_L_134 : Cond.methodLink RL 134 yL_advise ∈ lw_tbl := t3 (List.mem_of_getElem? (i := 120) rfl)
set_option maxRecDepth 20000 in
theorem ml_L_136 : Cond.methodLink RL 136 yX5_advise ∈ lw_tbl := t4 (List.mem_of_getElem? (i := 183) rfl)
set_option maxRecDepth 20000 in
theorem ml_L_137 : Cond.methodLink RL 137 yL_count ∈ lw_tbl := t3 (List.mem_of_getElem? (i := 127) rfl)
set_option maxRecDepth 20000 in
theorem ml_L_139 : Cond.methodLink RL 139 yX5_count ∈ lw_tbl := t4 (List.mem_of_getElem? (i := 187) rfl)
set_option maxRecDepth 20000 in
theorem ml_L_140 : Cond.methodLink RL 140 yL_pass ∈ lw_tbl := t3 (List.mem_of_getElem? (i := 131) rfl)
set_option maxRecDepth 20000 in
theorem ml_L_142 : Cond.methodLink RL 142 yX5_pass ∈ lw_tbl := t4 (List.mem_of_getElem? (i := 195) rfl)
set_option maxRecDepth 20000 in
theorem ml_L_143 : Cond.methodLink RL 143 yL_foresee ∈ lw_tbl := t3 (List.mem_of_getElem? (i := 151) rfl)
set_option maxRecDepth 20000 in
theorem ml_L_145 : Cond.methodLink RL 145 yX5_foresee ∈ lw_tbl := t4 (List.mem_of_getElem? (i := 215) rfl)
set_option maxRecDepth 20000 in
theorem ml_L_146 : Cond.methodLink RL 146 yX3_mean ∈ lw_tbl := t1 (List.mem_of_getElem? (i := 148) rfl)
set_option maxRecDepth 20000 in
theorem ml_L_150 : Cond.methodLink RL 150 yX5_mean ∈ lw_tbl := t4 (List.mem_of_getElem? (i := 219) rfl)
set_option maxRecDepth 20000 in
theorem ml_L_151 : Cond.methodLink RL 151 yX3_digest ∈ lw_tbl := t1 (List.mem_of_getElem? (i := 172) rfl)
set_option maxRecDepth 20000 in
theorem ml_L_155 : Cond.methodLink RL 155 yX5_digest ∈ lw_tbl := t4 (List.mem_of_getElem? (i := 223) rfl)
set_option maxRecDepth 20000 in
theorem w_arrI : Cond.arrayClass .int ∈ lw_tbl := t1 (List.mem_of_getElem? (i := 66) rfl)
set_option maxRecDepth 20000 in
theorem w_arrJ : Cond.arrayClass .long ∈ lw_tbl := t1 (List.mem_of_getElem? (i := 92) rfl)
set_option maxRecDepth 20000 in
theorem w_oiI : Cond.instanceMethod Lib.objectInit ∈ lw_tbl := t1 (List.mem_of_getElem? (i := 22) rfl)
set_option maxRecDepth 20000 in
theorem w_oiC : Cond.code Lib.objectInit ⟨#[0xb1]⟩ 1 none ∈ lw_tbl := t1 (List.mem_of_getElem? (i := 23) rfl)
set_option maxRecDepth 20000 in
theorem w_mmaxS : Cond.static Lib.Math.max.name ∈ lw_tbl := t2 (List.mem_of_getElem? (i := 170) rfl)
set_option maxRecDepth 20000 in
theorem w_mmaxC : Cond.code Lib.Math.max.name Lib.Math.max.code 2 (some .int) ∈ lw_tbl := t2 (List.mem_of_getElem? (i := 171) rfl)
set_option maxRecDepth 20000 in
theorem w_mminS : Cond.static Lib.Math.min.name ∈ lw_tbl := t2 (List.mem_of_getElem? (i := 167) rfl)
set_option maxRecDepth 20000 in
theorem w_mminC : Cond.code Lib.Math.min.name Lib.Math.min.code 2 (some .int) ∈ lw_tbl := t2 (List.mem_of_getElem? (i := 168) rfl)
set_option maxRecDepth 20000 in
theorem w_mI : Cond.initialized "java/lang/Math" ∈ lw_tbl := t1 (List.mem_of_getElem? (i := 13) rfl)
set_option maxRecDepth 20000 in
theorem w_acN : Cond.native arraycopyName ∈ lw_tbl := t2 (List.mem_of_getElem? (i := 69) rfl)
set_option maxRecDepth 20000 in
theorem w_acS : Cond.static arraycopyName ∈ lw_tbl := t2 (List.mem_of_getElem? (i := 68) rfl)
set_option maxRecDepth 20000 in
theorem w_acI : Cond.initialized "java/lang/System" ∈ lw_tbl := t1 (List.mem_of_getElem? (i := 14) rfl)
def mX3_init : gw_M := (yX3_init, cX3_init, 2, none, 2, 41)
set_option maxRecDepth 20000 in
theorem cb_X3_init : CLb mX3_init 0 := ⟨t1 (List.mem_of_getElem? (i := 20) rfl), t1 (List.mem_of_getElem? (i := 1) rfl), ⟨by decide +kernel, by decide +kernel⟩, by decide +kernel⟩
set_option maxRecDepth 20000 in
theorem im_X3_init : Cond.instanceMethod yX3_init ∈ lw_tbl := t1 (List.mem_of_getElem? (i := 19) rfl)
theorem pn_X3_init : plainName mX3_init.1.cls = true := by decide +kernel
def mX3_ringer : gw_M := (yX3_ringer, cX3_ringer, 4, (some .int), 7, 112)
set_option maxRecDepth 20000 in
theorem cb_X3_ringer : CLb mX3_ringer 3 := ⟨t2 (List.mem_of_getElem? (i := 115) rfl), t1 (List.mem_of_getElem? (i := 1) rfl), ⟨by decide +kernel, by decide +kernel⟩, by decide +kernel⟩
set_option maxRecDepth 20000 in
theorem im_X3_ringer : Cond.instanceMethod yX3_ringer ∈ lw_tbl := t2 (List.mem_of_getElem? (i := 113) rfl)
set_option maxRecDepth 20000 in
theorem se_X3_ringer : Cond.selects yX3_ringer.cls yX3_ringer yX3_ringer ∈ lw_tbl := t2 (List.mem_of_getElem? (i := 114) rfl)
theorem pn_X3_ringer : plainName mX3_ringer.1.cls = true := by decide +kernel
def mX3_vote : gw_M := (yX3_vote, cX3_vote, 3, (some .int), 7, 112)
set_option maxRecDepth 20000 in
theorem cb_X3_vote : CLb mX3_vote 2 := ⟨t2 (List.mem_of_getElem? (i := 161) rfl), t1 (List.mem_of_getElem? (i := 1) rfl), ⟨by decide +kernel, by decide +kernel⟩, by decide +kernel⟩
set_option maxRecDepth 20000 in
theorem im_X3_vote : Cond.instanceMethod yX3_vote ∈ lw_tbl := t2 (List.mem_of_getElem? (i := 159) rfl)
set_option maxRecDepth 20000 in
theorem se_X3_vote : Cond.selects yX3_vote.cls yX3_vote yX3_vote ∈ lw_tbl := t2 (List.mem_of_getElem? (i := 160) rfl)
theorem pn_X3_vote : plainName mX3_vote.1.cls = true := by decide +kernel
def mX3_seat : gw_M := (yX3_seat, cX3_seat, 6, (some .int), 8, 132)
set_option maxRecDepth 20000 in
theorem cb_X3_seat : CLb mX3_seat 3 := ⟨t2 (List.mem_of_getElem? (i := 178) rfl), t1 (List.mem_of_getElem? (i := 1) rfl), ⟨by decide +kernel, by decide +kernel⟩, by decide +kernel⟩
set_option maxRecDepth 20000 in
theorem im_X3_seat : Cond.instanceMethod yX3_seat ∈ lw_tbl := t2 (List.mem_of_getElem? (i := 176) rfl)
set_option maxRecDepth 20000 in
theorem se_X3_seat : Cond.selects yX3_seat.cls yX3_seat yX3_seat ∈ lw_tbl := t2 (List.mem_of_getElem? (i := 177) rfl)
theorem pn_X3_seat : plainName mX3_seat.1.cls = true := by decide +kernel
def mX3_elect : gw_M := (yX3_elect, cX3_elect, 2, (some .int), 7, 111)
set_option maxRecDepth 20000 in
theorem cb_X3_elect : CLb mX3_elect 1 := ⟨t2 (List.mem_of_getElem? (i := 185) rfl), t1 (List.mem_of_getElem? (i := 1) rfl), ⟨by decide +kernel, by decide +kernel⟩, by decide +kernel⟩
set_option maxRecDepth 20000 in
theorem im_X3_elect : Cond.instanceMethod yX3_elect ∈ lw_tbl := t2 (List.mem_of_getElem? (i := 183) rfl)
set_option maxRecDepth 20000 in
theorem se_X3_elect : Cond.selects yX3_elect.cls yX3_elect yX3_elect ∈ lw_tbl := t2 (List.mem_of_getElem? (i := 184) rfl)
theorem pn_X3_elect : plainName mX3_elect.1.cls = true := by decide +kernel
def mX3_put : gw_M := (yX3_put, cX3_put, 5, (some .int), 8, 132)
set_option maxRecDepth 20000 in
theorem cb_X3_put : CLb mX3_put 3 := ⟨t2 (List.mem_of_getElem? (i := 193) rfl), t1 (List.mem_of_getElem? (i := 1) rfl), ⟨by decide +kernel, by decide +kernel⟩, by decide +kernel⟩
set_option maxRecDepth 20000 in
theorem im_X3_put : Cond.instanceMethod yX3_put ∈ lw_tbl := t2 (List.mem_of_getElem? (i := 191) rfl)
set_option maxRecDepth 20000 in
theorem se_X3_put : Cond.selects yX3_put.cls yX3_put yX3_put ∈ lw_tbl := t2 (List.mem_of_getElem? (i := 192) rfl)
theorem pn_X3_put : plainName mX3_put.1.cls = true := by decide +kernel
def mX3_leave : gw_M := (yX3_leave, cX3_leave, 3, (some .int), 7, 111)
set_option maxRecDepth 20000 in
theorem cb_X3_leave : CLb mX3_leave 1 := ⟨t2 (List.mem_of_getElem? (i := 203) rfl), t1 (List.mem_of_getElem? (i := 1) rfl), ⟨by decide +kernel, by decide +kernel⟩, by decide +kernel⟩
set_option maxRecDepth 20000 in
theorem im_X3_leave : Cond.instanceMethod yX3_leave ∈ lw_tbl := t2 (List.mem_of_getElem? (i := 201) rfl)
set_option maxRecDepth 20000 in
theorem se_X3_leave : Cond.selects yX3_leave.cls yX3_leave yX3_leave ∈ lw_tbl := t2 (List.mem_of_getElem? (i := 202) rfl)
theorem pn_X3_leave : plainName mX3_leave.1.cls = true := by decide +kernel
def mX3_told : gw_M := (yX3_told, cX3_told, 3, (some .int), 7, 111)
set_option maxRecDepth 20000 in
theorem cb_X3_told : CLb mX3_told 2 := ⟨t2 (List.mem_of_getElem? (i := 32) rfl), t1 (List.mem_of_getElem? (i := 1) rfl), ⟨by decide +kernel, by decide +kernel⟩, by decide +kernel⟩
set_option maxRecDepth 20000 in
theorem im_X3_told : Cond.instanceMethod yX3_told ∈ lw_tbl := t2 (List.mem_of_getElem? (i := 30) rfl)
set_option maxRecDepth 20000 in
theorem se_X3_told : Cond.selects yX3_told.cls yX3_told yX3_told ∈ lw_tbl := t2 (List.mem_of_getElem? (i := 31) rfl)
theorem pn_X3_told : plainName mX3_told.1.cls = true := by decide +kernel
def mX3_bell : gw_M := (yX3_bell, cX3_bell, 5, (some .int), 8, 132)
set_option maxRecDepth 20000 in
theorem cb_X3_bell : CLb mX3_bell 3 := ⟨t2 (List.mem_of_getElem? (i := 52) rfl), t1 (List.mem_of_getElem? (i := 1) rfl), ⟨by decide +kernel, by decide +kernel⟩, by decide +kernel⟩
set_option maxRecDepth 20000 in
theorem im_X3_bell : Cond.instanceMethod yX3_bell ∈ lw_tbl := t2 (List.mem_of_getElem? (i := 50) rfl)
set_option maxRecDepth 20000 in
theorem se_X3_bell : Cond.selects yX3_bell.cls yX3_bell yX3_bell ∈ lw_tbl := t2 (List.mem_of_getElem? (i := 51) rfl)
theorem pn_X3_bell : plainName mX3_bell.1.cls = true := by decide +kernel
def mX3_method : gw_M := (yX3_method, cX3_method, 1, (some .int), 6, 90)
set_option maxRecDepth 20000 in
theorem cb_X3_method : CLb mX3_method 0 := ⟨t2 (List.mem_of_getElem? (i := 221) rfl), t1 (List.mem_of_getElem? (i := 1) rfl), ⟨by decide +kernel, by decide +kernel⟩, by decide +kernel⟩
set_option maxRecDepth 20000 in
theorem im_X3_method : Cond.instanceMethod yX3_method ∈ lw_tbl := t2 (List.mem_of_getElem? (i := 219) rfl)
set_option maxRecDepth 20000 in
theorem se_X3_method : Cond.selects yX3_method.cls yX3_method yX3_method ∈ lw_tbl := t2 (List.mem_of_getElem? (i := 220) rfl)
theorem pn_X3_method : plainName mX3_method.1.cls = true := by decide +kernel
def mX3_add : gw_M := (yX3_add, cX3_add, 4, (some .int), 8, 132)
set_option maxRecDepth 20000 in
theorem cb_X3_add : CLb mX3_add 2 := ⟨t2 (List.mem_of_getElem? (i := 229) rfl), t1 (List.mem_of_getElem? (i := 1) rfl), ⟨by decide +kernel, by decide +kernel⟩, by decide +kernel⟩
set_option maxRecDepth 20000 in
theorem im_X3_add : Cond.instanceMethod yX3_add ∈ lw_tbl := t2 (List.mem_of_getElem? (i := 227) rfl)
set_option maxRecDepth 20000 in
theorem se_X3_add : Cond.selects yX3_add.cls yX3_add yX3_add ∈ lw_tbl := t2 (List.mem_of_getElem? (i := 228) rfl)
theorem pn_X3_add : plainName mX3_add.1.cls = true := by decide +kernel
def mX3_about : gw_M := (yX3_about, cX3_about, 4, (some .int), 8, 132)
set_option maxRecDepth 20000 in
theorem cb_X3_about : CLb mX3_about 2 := ⟨t2 (List.mem_of_getElem? (i := 85) rfl), t1 (List.mem_of_getElem? (i := 1) rfl), ⟨by decide +kernel, by decide +kernel⟩, by decide +kernel⟩
set_option maxRecDepth 20000 in
theorem im_X3_about : Cond.instanceMethod yX3_about ∈ lw_tbl := t2 (List.mem_of_getElem? (i := 83) rfl)
set_option maxRecDepth 20000 in
theorem se_X3_about : Cond.selects yX3_about.cls yX3_about yX3_about ∈ lw_tbl := t2 (List.mem_of_getElem? (i := 84) rfl)
theorem pn_X3_about : plainName mX3_about.1.cls = true := by decide +kernel
def mX3_row : gw_M := (yX3_row, cX3_row, 6, (some .int), 8, 132)
set_option maxRecDepth 20000 in
theorem cb_X3_row : CLb mX3_row 2 := ⟨t3 (List.mem_of_getElem? (i := 57) rfl), t1 (List.mem_of_getElem? (i := 1) rfl), ⟨by decide +kernel, by decide +kernel⟩, by decide +kernel⟩
set_option maxRecDepth 20000 in
theorem im_X3_row : Cond.instanceMethod yX3_row ∈ lw_tbl := t3 (List.mem_of_getElem? (i := 55) rfl)
set_option maxRecDepth 20000 in
theorem se_X3_row : Cond.selects yX3_row.cls yX3_row yX3_row ∈ lw_tbl := t3 (List.mem_of_getElem? (i := 56) rfl)
theorem pn_X3_row : plainName mX3_row.1.cls = true := by decide +kernel
def mX3_dodges : gw_M := (yX3_dodges, cX3_dodges, 4, (some .int), 8, 132)
set_option maxRecDepth 20000 in
theorem cb_X3_dodges : CLb mX3_dodges 2 := ⟨t2 (List.mem_of_getElem? (i := 105) rfl), t1 (List.mem_of_getElem? (i := 1) rfl), ⟨by decide +kernel, by decide +kernel⟩, by decide +kernel⟩
set_option maxRecDepth 20000 in
theorem im_X3_dodges : Cond.instanceMethod yX3_dodges ∈ lw_tbl := t2 (List.mem_of_getElem? (i := 103) rfl)
set_option maxRecDepth 20000 in
theorem se_X3_dodges : Cond.selects yX3_dodges.cls yX3_dodges yX3_dodges ∈ lw_tbl := t2 (List.mem_of_getElem? (i := 104) rfl)
theorem pn_X3_dodges : plainName mX3_dodges.1.cls = true := by decide +kernel
def mX3_ring : gw_M := (yX3_ring, cX3_ring, 6, (some .int), 8, 132)
set_option maxRecDepth 20000 in
theorem cb_X3_ring : CLb mX3_ring 3 := ⟨t3 (List.mem_of_getElem? (i := 79) rfl), t1 (List.mem_of_getElem? (i := 1) rfl), ⟨by decide +kernel, by decide +kernel⟩, by decide +kernel⟩
set_option maxRecDepth 20000 in
theorem im_X3_ring : Cond.instanceMethod yX3_ring ∈ lw_tbl := t3 (List.mem_of_getElem? (i := 77) rfl)
set_option maxRecDepth 20000 in
theorem se_X3_ring : Cond.selects yX3_ring.cls yX3_ring yX3_ring ∈ lw_tbl := t3 (List.mem_of_getElem? (i := 78) rfl)
theorem pn_X3_ring : plainName mX3_ring.1.cls = true := by decide +kernel
def mX3_would : gw_M := (yX3_would, cX3_would, 5, (some .int), 8, 132)
set_option maxRecDepth 20000 in
theorem cb_X3_would : CLb mX3_would 3 := ⟨t3 (List.mem_of_getElem? (i := 115) rfl), t1 (List.mem_of_getElem? (i := 1) rfl), ⟨by decide +kernel, by decide +kernel⟩, by decide +kernel⟩
set_option maxRecDepth 20000 in
theorem im_X3_would : Cond.instanceMethod yX3_would ∈ lw_tbl := t3 (List.mem_of_getElem? (i := 113) rfl)
set_option maxRecDepth 20000 in
theorem se_X3_would : Cond.selects yX3_would.cls yX3_would yX3_would ∈ lw_tbl := t3 (List.mem_of_getElem? (i := 114) rfl)
theorem pn_X3_would : plainName mX3_would.1.cls = true := by decide +kernel
def mX3_advise : gw_M := (yX3_advise, cX3_advise, 7, (some .int), 8, 132)
set_option maxRecDepth 20000 in
theorem cb_X3_advise : CLb mX3_advise 1 := ⟨t3 (List.mem_of_getElem? (i := 126) rfl), t1 (List.mem_of_getElem? (i := 1) rfl), ⟨by decide +kernel, by decide +kernel⟩, by decide +kernel⟩
set_option maxRecDepth 20000 in
theorem im_X3_advise : Cond.instanceMethod yX3_advise ∈ lw_tbl := t3 (List.mem_of_getElem? (i := 124) rfl)
set_option maxRecDepth 20000 in
theorem se_X3_advise : Cond.selects yX3_advise.cls yX3_advise yX3_advise ∈ lw_tbl := t3 (List.mem_of_getElem? (i := 125) rfl)
theorem pn_X3_advise : plainName mX3_advise.1.cls = true := by decide +kernel
def mX3_count : gw_M := (yX3_count, cX3_count, 2, (some .int), 7, 111)
set_option maxRecDepth 20000 in
theorem cb_X3_count : CLb mX3_count 1 := ⟨t1 (List.mem_of_getElem? (i := 181) rfl), t1 (List.mem_of_getElem? (i := 1) rfl), ⟨by decide +kernel, by decide +kernel⟩, by decide +kernel⟩
set_option maxRecDepth 20000 in
theorem im_X3_count : Cond.instanceMethod yX3_count ∈ lw_tbl := t1 (List.mem_of_getElem? (i := 179) rfl)
set_option maxRecDepth 20000 in
theorem se_X3_count : Cond.selects yX3_count.cls yX3_count yX3_count ∈ lw_tbl := t1 (List.mem_of_getElem? (i := 180) rfl)
theorem pn_X3_count : plainName mX3_count.1.cls = true := by decide +kernel
def mX3_pass : gw_M := (yX3_pass, cX3_pass, 2, (some .int), 7, 112)
set_option maxRecDepth 20000 in
theorem cb_X3_pass : CLb mX3_pass 1 := ⟨t3 (List.mem_of_getElem? (i := 137) rfl), t1 (List.mem_of_getElem? (i := 1) rfl), ⟨by decide +kernel, by decide +kernel⟩, by decide +kernel⟩
set_option maxRecDepth 20000 in
theorem im_X3_pass : Cond.instanceMethod yX3_pass ∈ lw_tbl := t3 (List.mem_of_getElem? (i := 135) rfl)
set_option maxRecDepth 20000 in
theorem se_X3_pass : Cond.selects yX3_pass.cls yX3_pass yX3_pass ∈ lw_tbl := t3 (List.mem_of_getElem? (i := 136) rfl)
theorem pn_X3_pass : plainName mX3_pass.1.cls = true := by decide +kernel
def mX3_foresee : gw_M := (yX3_foresee, cX3_foresee, 4, (some .int), 7, 112)
set_option maxRecDepth 20000 in
theorem cb_X3_foresee : CLb mX3_foresee 3 := ⟨t3 (List.mem_of_getElem? (i := 157) rfl), t1 (List.mem_of_getElem? (i := 1) rfl), ⟨by decide +kernel, by decide +kernel⟩, by decide +kernel⟩
set_option maxRecDepth 20000 in
theorem im_X3_foresee : Cond.instanceMethod yX3_foresee ∈ lw_tbl := t3 (List.mem_of_getElem? (i := 155) rfl)
set_option maxRecDepth 20000 in
theorem se_X3_foresee : Cond.selects yX3_foresee.cls yX3_foresee yX3_foresee ∈ lw_tbl := t3 (List.mem_of_getElem? (i := 156) rfl)
theorem pn_X3_foresee : plainName mX3_foresee.1.cls = true := by decide +kernel
def mX3_mean : gw_M := (yX3_mean, cX3_mean, 2, (some .double), 4, 87)
set_option maxRecDepth 20000 in
theorem cb_X3_mean : CLb mX3_mean 0 := ⟨t1 (List.mem_of_getElem? (i := 151) rfl), t1 (List.mem_of_getElem? (i := 1) rfl), ⟨by decide +kernel, by decide +kernel⟩, by decide +kernel⟩
set_option maxRecDepth 20000 in
theorem im_X3_mean : Cond.instanceMethod yX3_mean ∈ lw_tbl := t1 (List.mem_of_getElem? (i := 149) rfl)
set_option maxRecDepth 20000 in
theorem se_X3_mean : Cond.selects yX3_mean.cls yX3_mean yX3_mean ∈ lw_tbl := t1 (List.mem_of_getElem? (i := 150) rfl)
theorem pn_X3_mean : plainName mX3_mean.1.cls = true := by decide +kernel
def mX3_digest : gw_M := (yX3_digest, cX3_digest, 4, (some .long), 10, 183)
set_option maxRecDepth 20000 in
theorem cb_X3_digest : CLb mX3_digest 0 := ⟨t1 (List.mem_of_getElem? (i := 175) rfl), t1 (List.mem_of_getElem? (i := 1) rfl), ⟨by decide +kernel, by decide +kernel⟩, by decide +kernel⟩
set_option maxRecDepth 20000 in
theorem im_X3_digest : Cond.instanceMethod yX3_digest ∈ lw_tbl := t1 (List.mem_of_getElem? (i := 173) rfl)
set_option maxRecDepth 20000 in
theorem se_X3_digest : Cond.selects yX3_digest.cls yX3_digest yX3_digest ∈ lw_tbl := t1 (List.mem_of_getElem? (i := 174) rfl)
theorem pn_X3_digest : plainName mX3_digest.1.cls = true := by decide +kernel
def mX3_digestRingers : gw_M := (yX3_digestRingers, cX3_digestRingers, 7, (some .long), 8, 133)
set_option maxRecDepth 20000 in
theorem cb_X3_digestRingers : CLb mX3_digestRingers 1 := ⟨t2 (List.mem_of_getElem? (i := 28) rfl), t1 (List.mem_of_getElem? (i := 1) rfl), ⟨by decide +kernel, by decide +kernel⟩, by decide +kernel⟩
set_option maxRecDepth 20000 in
theorem im_X3_digestRingers : Cond.instanceMethod yX3_digestRingers ∈ lw_tbl := t2 (List.mem_of_getElem? (i := 27) rfl)
set_option maxRecDepth 20000 in
theorem se_X3_digestRingers : Cond.selects yX3_digestRingers.cls yX3_digestRingers yX3_digestRingers ∈ lw_tbl := List.mem_append_left _ (List.mem_of_getElem? (i := 1) rfl)
theorem pn_X3_digestRingers : plainName mX3_digestRingers.1.cls = true := by decide +kernel
def mX3_digestBands : gw_M := (yX3_digestBands, cX3_digestBands, 8, (some .long), 9, 156)
set_option maxRecDepth 20000 in
theorem cb_X3_digestBands : CLb mX3_digestBands 1 := ⟨t2 (List.mem_of_getElem? (i := 48) rfl), t1 (List.mem_of_getElem? (i := 1) rfl), ⟨by decide +kernel, by decide +kernel⟩, by decide +kernel⟩
set_option maxRecDepth 20000 in
theorem im_X3_digestBands : Cond.instanceMethod yX3_digestBands ∈ lw_tbl := t2 (List.mem_of_getElem? (i := 47) rfl)
set_option maxRecDepth 20000 in
theorem se_X3_digestBands : Cond.selects yX3_digestBands.cls yX3_digestBands yX3_digestBands ∈ lw_tbl := List.mem_append_left _ (List.mem_of_getElem? (i := 2) rfl)
theorem pn_X3_digestBands : plainName mX3_digestBands.1.cls = true := by decide +kernel
def mX3_digestMethods : gw_M := (yX3_digestMethods, cX3_digestMethods, 8, (some .long), 9, 155)
set_option maxRecDepth 20000 in
theorem cb_X3_digestMethods : CLb mX3_digestMethods 1 := ⟨t2 (List.mem_of_getElem? (i := 81) rfl), t1 (List.mem_of_getElem? (i := 1) rfl), ⟨by decide +kernel, by decide +kernel⟩, by decide +kernel⟩
set_option maxRecDepth 20000 in
theorem im_X3_digestMethods : Cond.instanceMethod yX3_digestMethods ∈ lw_tbl := t2 (List.mem_of_getElem? (i := 80) rfl)
set_option maxRecDepth 20000 in
theorem se_X3_digestMethods : Cond.selects yX3_digestMethods.cls yX3_digestMethods yX3_digestMethods ∈ lw_tbl := List.mem_append_left _ (List.mem_of_getElem? (i := 4) rfl)
theorem pn_X3_digestMethods : plainName mX3_digestMethods.1.cls = true := by decide +kernel
def mX3_canBeRung : gw_M := (yX3_canBeRung, cX3_canBeRung, 3, (some .boolean), 3, 65)
set_option maxRecDepth 20000 in
theorem cb_X3_canBeRung : CLb mX3_canBeRung 2 := ⟨t3 (List.mem_of_getElem? (i := 83) rfl), t1 (List.mem_of_getElem? (i := 1) rfl), ⟨by decide +kernel, by decide +kernel⟩, by decide +kernel⟩
set_option maxRecDepth 20000 in
theorem im_X3_canBeRung : Cond.instanceMethod yX3_canBeRung ∈ lw_tbl := t3 (List.mem_of_getElem? (i := 82) rfl)
set_option maxRecDepth 20000 in
theorem se_X3_canBeRung : Cond.selects yX3_canBeRung.cls yX3_canBeRung yX3_canBeRung ∈ lw_tbl := List.mem_append_left _ (List.mem_of_getElem? (i := 10) rfl)
theorem pn_X3_canBeRung : plainName mX3_canBeRung.1.cls = true := by decide +kernel
def mX3_votesBrought : gw_M := (yX3_votesBrought, cX3_votesBrought, 4, (some .int), 4, 93)
set_option maxRecDepth 20000 in
theorem cb_X3_votesBrought : CLb mX3_votesBrought 3 := ⟨t3 (List.mem_of_getElem? (i := 119) rfl), t1 (List.mem_of_getElem? (i := 1) rfl), ⟨by decide +kernel, by decide +kernel⟩, by decide +kernel⟩
set_option maxRecDepth 20000 in
theorem im_X3_votesBrought : Cond.instanceMethod yX3_votesBrought ∈ lw_tbl := t3 (List.mem_of_getElem? (i := 118) rfl)
set_option maxRecDepth 20000 in
theorem se_X3_votesBrought : Cond.selects yX3_votesBrought.cls yX3_votesBrought yX3_votesBrought ∈ lw_tbl := List.mem_append_left _ (List.mem_of_getElem? (i := 13) rfl)
theorem pn_X3_votesBrought : plainName mX3_votesBrought.1.cls = true := by decide +kernel
def mX3_listNumbered : gw_M := (yX3_listNumbered, cX3_listNumbered, 2, (some (.object "BellRoster$ChangeList")), 7, 111)
set_option maxRecDepth 20000 in
theorem cb_X3_listNumbered : CLb mX3_listNumbered 1 := ⟨t2 (List.mem_of_getElem? (i := 89) rfl), t1 (List.mem_of_getElem? (i := 1) rfl), ⟨by decide +kernel, by decide +kernel⟩, by decide +kernel⟩
set_option maxRecDepth 20000 in
theorem im_X3_listNumbered : Cond.instanceMethod yX3_listNumbered ∈ lw_tbl := t2 (List.mem_of_getElem? (i := 88) rfl)
set_option maxRecDepth 20000 in
theorem se_X3_listNumbered : Cond.selects yX3_listNumbered.cls yX3_listNumbered yX3_listNumbered ∈ lw_tbl := List.mem_append_left _ (List.mem_of_getElem? (i := 5) rfl)
theorem pn_X3_listNumbered : plainName mX3_listNumbered.1.cls = true := by decide +kernel
def mX3_seatNumber : gw_M := (yX3_seatNumber, cX3_seatNumber, 2, (some .int), 0, 0)
set_option maxRecDepth 20000 in
theorem cb_X3_seatNumber : CLb mX3_seatNumber 2 := ⟨t2 (List.mem_of_getElem? (i := 58) rfl), t1 (List.mem_of_getElem? (i := 1) rfl), ⟨by decide +kernel, by decide +kernel⟩, by decide +kernel⟩
set_option maxRecDepth 20000 in
theorem st_X3_seatNumber : Cond.static yX3_seatNumber ∈ lw_tbl := t2 (List.mem_of_getElem? (i := 57) rfl)
theorem pn_X3_seatNumber : plainName mX3_seatNumber.1.cls = true := by decide +kernel
def mX3_requireSeat : gw_M := (yX3_requireSeat, cX3_requireSeat, 2, none, 7, 111)
set_option maxRecDepth 20000 in
theorem cb_X3_requireSeat : CLb mX3_requireSeat 2 := ⟨t2 (List.mem_of_getElem? (i := 55) rfl), t1 (List.mem_of_getElem? (i := 1) rfl), ⟨by decide +kernel, by decide +kernel⟩, by decide +kernel⟩
set_option maxRecDepth 20000 in
theorem st_X3_requireSeat : Cond.static yX3_requireSeat ∈ lw_tbl := t2 (List.mem_of_getElem? (i := 54) rfl)
theorem pn_X3_requireSeat : plainName mX3_requireSeat.1.cls = true := by decide +kernel
def mX3_requireIndex : gw_M := (yX3_requireIndex, cX3_requireIndex, 2, none, 6, 90)
set_option maxRecDepth 20000 in
theorem cb_X3_requireIndex : CLb mX3_requireIndex 2 := ⟨t1 (List.mem_of_getElem? (i := 184) rfl), t1 (List.mem_of_getElem? (i := 1) rfl), ⟨by decide +kernel, by decide +kernel⟩, by decide +kernel⟩
set_option maxRecDepth 20000 in
theorem st_X3_requireIndex : Cond.static yX3_requireIndex ∈ lw_tbl := t1 (List.mem_of_getElem? (i := 183) rfl)
theorem pn_X3_requireIndex : plainName mX3_requireIndex.1.cls = true := by decide +kernel
def mX3_requireWithin : gw_M := (yX3_requireWithin, cX3_requireWithin, 3, none, 6, 90)
set_option maxRecDepth 20000 in
theorem cb_X3_requireWithin : CLb mX3_requireWithin 3 := ⟨t2 (List.mem_of_getElem? (i := 118) rfl), t1 (List.mem_of_getElem? (i := 1) rfl), ⟨by decide +kernel, by decide +kernel⟩, by decide +kernel⟩
set_option maxRecDepth 20000 in
theorem st_X3_requireWithin : Cond.static yX3_requireWithin ∈ lw_tbl := t2 (List.mem_of_getElem? (i := 117) rfl)
theorem pn_X3_requireWithin : plainName mX3_requireWithin.1.cls = true := by decide +kernel
def mX5_init : gw_M := (yX5_init, cX5_init, 2, none, 2, 41)
set_option maxRecDepth 20000 in
theorem cb_X5_init : CLb mX5_init 0 := ⟨t3 (List.mem_of_getElem? (i := 162) rfl), t1 (List.mem_of_getElem? (i := 5) rfl), ⟨by decide +kernel, by decide +kernel⟩, by decide +kernel⟩
set_option maxRecDepth 20000 in
theorem im_X5_init : Cond.instanceMethod yX5_init ∈ lw_tbl := t3 (List.mem_of_getElem? (i := 161) rfl)
theorem pn_X5_init : plainName mX5_init.1.cls = true := by decide +kernel
def mX5_thrown : gw_M := (yX5_thrown, cX5_thrown, 1, (some .int), 0, 0)
set_option maxRecDepth 20000 in
theorem cb_X5_thrown : CLb mX5_thrown 0 := ⟨t4 (List.mem_of_getElem? (i := 20) rfl), t1 (List.mem_of_getElem? (i := 5) rfl), ⟨by decide +kernel, by decide +kernel⟩, by decide +kernel⟩
set_option maxRecDepth 20000 in
theorem im_X5_thrown : Cond.instanceMethod yX5_thrown ∈ lw_tbl := t4 (List.mem_of_getElem? (i := 18) rfl)
set_option maxRecDepth 20000 in
theorem se_X5_thrown : Cond.selects yX5_thrown.cls yX5_thrown yX5_thrown ∈ lw_tbl := t4 (List.mem_of_getElem? (i := 19) rfl)
theorem pn_X5_thrown : plainName mX5_thrown.1.cls = true := by decide +kernel
def mX5_no : gw_M := (yX5_no, cX5_no, 2, (some .int), 0, 0)
set_option maxRecDepth 20000 in
theorem cb_X5_no : CLb mX5_no 1 := ⟨t4 (List.mem_of_getElem? (i := 31) rfl), t1 (List.mem_of_getElem? (i := 5) rfl), ⟨by decide +kernel, by decide +kernel⟩, by decide +kernel⟩
set_option maxRecDepth 20000 in
theorem im_X5_no : Cond.instanceMethod yX5_no ∈ lw_tbl := t4 (List.mem_of_getElem? (i := 30) rfl)
set_option maxRecDepth 20000 in
theorem se_X5_no : Cond.selects yX5_no.cls yX5_no yX5_no ∈ lw_tbl := List.mem_append_left _ (List.mem_of_getElem? (i := 15) rfl)
theorem pn_X5_no : plainName mX5_no.1.cls = true := by decide +kernel
def mX5_isIn : gw_M := (yX5_isIn, cX5_isIn, 3, (some .boolean), 0, 0)
set_option maxRecDepth 20000 in
theorem cb_X5_isIn : CLb mX5_isIn 3 := ⟨t4 (List.mem_of_getElem? (i := 27) rfl), t1 (List.mem_of_getElem? (i := 5) rfl), ⟨by decide +kernel, by decide +kernel⟩, by decide +kernel⟩
set_option maxRecDepth 20000 in
theorem st_X5_isIn : Cond.static yX5_isIn ∈ lw_tbl := t4 (List.mem_of_getElem? (i := 26) rfl)
theorem pn_X5_isIn : plainName mX5_isIn.1.cls = true := by decide +kernel
def mX5_isRinger : gw_M := (yX5_isRinger, cX5_isRinger, 2, (some .boolean), 1, 22)
set_option maxRecDepth 20000 in
theorem cb_X5_isRinger : CLb mX5_isRinger 1 := ⟨t4 (List.mem_of_getElem? (i := 39) rfl), t1 (List.mem_of_getElem? (i := 5) rfl), ⟨by decide +kernel, by decide +kernel⟩, by decide +kernel⟩
set_option maxRecDepth 20000 in
theorem im_X5_isRinger : Cond.instanceMethod yX5_isRinger ∈ lw_tbl := t4 (List.mem_of_getElem? (i := 38) rfl)
set_option maxRecDepth 20000 in
theorem se_X5_isRinger : Cond.selects yX5_isRinger.cls yX5_isRinger yX5_isRinger ∈ lw_tbl := List.mem_append_left _ (List.mem_of_getElem? (i := 16) rfl)
theorem pn_X5_isRinger : plainName mX5_isRinger.1.cls = true := by decide +kernel
def mX5_isSeat : gw_M := (yX5_isSeat, cX5_isSeat, 2, (some .boolean), 1, 22)
set_option maxRecDepth 20000 in
theorem cb_X5_isSeat : CLb mX5_isSeat 2 := ⟨t4 (List.mem_of_getElem? (i := 48) rfl), t1 (List.mem_of_getElem? (i := 5) rfl), ⟨by decide +kernel, by decide +kernel⟩, by decide +kernel⟩
set_option maxRecDepth 20000 in
theorem st_X5_isSeat : Cond.static yX5_isSeat ∈ lw_tbl := t4 (List.mem_of_getElem? (i := 47) rfl)
theorem pn_X5_isSeat : plainName mX5_isSeat.1.cls = true := by decide +kernel
def mX5_isMethod : gw_M := (yX5_isMethod, cX5_isMethod, 2, (some .boolean), 1, 22)
set_option maxRecDepth 20000 in
theorem cb_X5_isMethod : CLb mX5_isMethod 1 := ⟨t4 (List.mem_of_getElem? (i := 109) rfl), t1 (List.mem_of_getElem? (i := 5) rfl), ⟨by decide +kernel, by decide +kernel⟩, by decide +kernel⟩
set_option maxRecDepth 20000 in
theorem im_X5_isMethod : Cond.instanceMethod yX5_isMethod ∈ lw_tbl := t4 (List.mem_of_getElem? (i := 108) rfl)
set_option maxRecDepth 20000 in
theorem se_X5_isMethod : Cond.selects yX5_isMethod.cls yX5_isMethod yX5_isMethod ∈ lw_tbl := List.mem_append_left _ (List.mem_of_getElem? (i := 20) rfl)
theorem pn_X5_isMethod : plainName mX5_isMethod.1.cls = true := by decide +kernel
def mX5_code : gw_M := (yX5_code, cX5_code, 6, (some .int), 0, 0)
set_option maxRecDepth 20000 in
theorem cb_X5_code : CLb mX5_code 0 := ⟨t4 (List.mem_of_getElem? (i := 129) rfl), t1 (List.mem_of_getElem? (i := 5) rfl), ⟨by decide +kernel, by decide +kernel⟩, by decide +kernel⟩
set_option maxRecDepth 20000 in
theorem im_X5_code : Cond.instanceMethod yX5_code ∈ lw_tbl := t4 (List.mem_of_getElem? (i := 128) rfl)
set_option maxRecDepth 20000 in
theorem se_X5_code : Cond.selects yX5_code.cls yX5_code yX5_code ∈ lw_tbl := List.mem_append_left _ (List.mem_of_getElem? (i := 24) rfl)
theorem pn_X5_code : plainName mX5_code.1.cls = true := by decide +kernel
def mX5_walkChanges : gw_M := (yX5_walkChanges, cX5_walkChanges, 8, none, 1, 25)
set_option maxRecDepth 20000 in
theorem cb_X5_walkChanges : CLb mX5_walkChanges 2 := ⟨t4 (List.mem_of_getElem? (i := 125) rfl), t1 (List.mem_of_getElem? (i := 5) rfl), ⟨by decide +kernel, by decide +kernel⟩, by decide +kernel⟩
set_option maxRecDepth 20000 in
theorem im_X5_walkChanges : Cond.instanceMethod yX5_walkChanges ∈ lw_tbl := t4 (List.mem_of_getElem? (i := 124) rfl)
set_option maxRecDepth 20000 in
theorem se_X5_walkChanges : Cond.selects yX5_walkChanges.cls yX5_walkChanges yX5_walkChanges ∈ lw_tbl := List.mem_append_left _ (List.mem_of_getElem? (i := 23) rfl)
theorem pn_X5_walkChanges : plainName mX5_walkChanges.1.cls = true := by decide +kernel
def mX5_walk : gw_M := (yX5_walk, cX5_walk, 3, none, 2, 52)
set_option maxRecDepth 20000 in
theorem cb_X5_walk : CLb mX5_walk 2 := ⟨t4 (List.mem_of_getElem? (i := 121) rfl), t1 (List.mem_of_getElem? (i := 5) rfl), ⟨by decide +kernel, by decide +kernel⟩, by decide +kernel⟩
set_option maxRecDepth 20000 in
theorem im_X5_walk : Cond.instanceMethod yX5_walk ∈ lw_tbl := t4 (List.mem_of_getElem? (i := 120) rfl)
set_option maxRecDepth 20000 in
theorem se_X5_walk : Cond.selects yX5_walk.cls yX5_walk yX5_walk ∈ lw_tbl := List.mem_append_left _ (List.mem_of_getElem? (i := 22) rfl)
theorem pn_X5_walk : plainName mX5_walk.1.cls = true := by decide +kernel
def mX5_untrue : gw_M := (yX5_untrue, cX5_untrue, 3, (some .int), 1, 22)
set_option maxRecDepth 20000 in
theorem cb_X5_untrue : CLb mX5_untrue 0 := ⟨t4 (List.mem_of_getElem? (i := 145) rfl), t1 (List.mem_of_getElem? (i := 5) rfl), ⟨by decide +kernel, by decide +kernel⟩, by decide +kernel⟩
set_option maxRecDepth 20000 in
theorem im_X5_untrue : Cond.instanceMethod yX5_untrue ∈ lw_tbl := t4 (List.mem_of_getElem? (i := 144) rfl)
set_option maxRecDepth 20000 in
theorem se_X5_untrue : Cond.selects yX5_untrue.cls yX5_untrue yX5_untrue ∈ lw_tbl := List.mem_append_left _ (List.mem_of_getElem? (i := 28) rfl)
theorem pn_X5_untrue : plainName mX5_untrue.1.cls = true := by decide +kernel
def mX5_isNew : gw_M := (yX5_isNew, cX5_isNew, 3, (some .boolean), 0, 0)
set_option maxRecDepth 20000 in
theorem cb_X5_isNew : CLb mX5_isNew 1 := ⟨t4 (List.mem_of_getElem? (i := 137) rfl), t1 (List.mem_of_getElem? (i := 5) rfl), ⟨by decide +kernel, by decide +kernel⟩, by decide +kernel⟩
set_option maxRecDepth 20000 in
theorem im_X5_isNew : Cond.instanceMethod yX5_isNew ∈ lw_tbl := t4 (List.mem_of_getElem? (i := 136) rfl)
set_option maxRecDepth 20000 in
theorem se_X5_isNew : Cond.selects yX5_isNew.cls yX5_isNew yX5_isNew ∈ lw_tbl := List.mem_append_left _ (List.mem_of_getElem? (i := 26) rfl)
theorem pn_X5_isNew : plainName mX5_isNew.1.cls = true := by decide +kernel
def mX5_course : gw_M := (yX5_course, cX5_course, 3, (some .int), 3, 74)
set_option maxRecDepth 20000 in
theorem cb_X5_course : CLb mX5_course 1 := ⟨t4 (List.mem_of_getElem? (i := 133) rfl), t1 (List.mem_of_getElem? (i := 5) rfl), ⟨by decide +kernel, by decide +kernel⟩, by decide +kernel⟩
set_option maxRecDepth 20000 in
theorem im_X5_course : Cond.instanceMethod yX5_course ∈ lw_tbl := t4 (List.mem_of_getElem? (i := 132) rfl)
set_option maxRecDepth 20000 in
theorem se_X5_course : Cond.selects yX5_course.cls yX5_course yX5_course ∈ lw_tbl := List.mem_append_left _ (List.mem_of_getElem? (i := 25) rfl)
theorem pn_X5_course : plainName mX5_course.1.cls = true := by decide +kernel
def mX5_dodgesOf : gw_M := (yX5_dodgesOf, cX5_dodgesOf, 4, (some .int), 0, 0)
set_option maxRecDepth 20000 in
theorem cb_X5_dodgesOf : CLb mX5_dodgesOf 1 := ⟨t4 (List.mem_of_getElem? (i := 141) rfl), t1 (List.mem_of_getElem? (i := 5) rfl), ⟨by decide +kernel, by decide +kernel⟩, by decide +kernel⟩
set_option maxRecDepth 20000 in
theorem im_X5_dodgesOf : Cond.instanceMethod yX5_dodgesOf ∈ lw_tbl := t4 (List.mem_of_getElem? (i := 140) rfl)
set_option maxRecDepth 20000 in
theorem se_X5_dodgesOf : Cond.selects yX5_dodgesOf.cls yX5_dodgesOf yX5_dodgesOf ∈ lw_tbl := List.mem_append_left _ (List.mem_of_getElem? (i := 27) rfl)
theorem pn_X5_dodgesOf : plainName mX5_dodgesOf.1.cls = true := by decide +kernel
def mX5_ringer : gw_M := (yX5_ringer, cX5_ringer, 4, (some .int), 1, 22)
set_option maxRecDepth 20000 in
theorem cb_X5_ringer : CLb mX5_ringer 3 := ⟨t4 (List.mem_of_getElem? (i := 24) rfl), t1 (List.mem_of_getElem? (i := 5) rfl), ⟨by decide +kernel, by decide +kernel⟩, by decide +kernel⟩
set_option maxRecDepth 20000 in
theorem im_X5_ringer : Cond.instanceMethod yX5_ringer ∈ lw_tbl := t4 (List.mem_of_getElem? (i := 22) rfl)
set_option maxRecDepth 20000 in
theorem se_X5_ringer : Cond.selects yX5_ringer.cls yX5_ringer yX5_ringer ∈ lw_tbl := t4 (List.mem_of_getElem? (i := 23) rfl)
theorem pn_X5_ringer : plainName mX5_ringer.1.cls = true := by decide +kernel
def mX5_vote : gw_M := (yX5_vote, cX5_vote, 3, (some .int), 2, 43)
set_option maxRecDepth 20000 in
theorem cb_X5_vote : CLb mX5_vote 2 := ⟨t4 (List.mem_of_getElem? (i := 35) rfl), t1 (List.mem_of_getElem? (i := 5) rfl), ⟨by decide +kernel, by decide +kernel⟩, by decide +kernel⟩
set_option maxRecDepth 20000 in
theorem im_X5_vote : Cond.instanceMethod yX5_vote ∈ lw_tbl := t4 (List.mem_of_getElem? (i := 33) rfl)
set_option maxRecDepth 20000 in
theorem se_X5_vote : Cond.selects yX5_vote.cls yX5_vote yX5_vote ∈ lw_tbl := t4 (List.mem_of_getElem? (i := 34) rfl)
theorem pn_X5_vote : plainName mX5_vote.1.cls = true := by decide +kernel
def mX5_seat : gw_M := (yX5_seat, cX5_seat, 5, (some .int), 2, 43)
set_option maxRecDepth 20000 in
theorem cb_X5_seat : CLb mX5_seat 3 := ⟨t4 (List.mem_of_getElem? (i := 45) rfl), t1 (List.mem_of_getElem? (i := 5) rfl), ⟨by decide +kernel, by decide +kernel⟩, by decide +kernel⟩
set_option maxRecDepth 20000 in
theorem im_X5_seat : Cond.instanceMethod yX5_seat ∈ lw_tbl := t4 (List.mem_of_getElem? (i := 43) rfl)
set_option maxRecDepth 20000 in
theorem se_X5_seat : Cond.selects yX5_seat.cls yX5_seat yX5_seat ∈ lw_tbl := t4 (List.mem_of_getElem? (i := 44) rfl)
theorem pn_X5_seat : plainName mX5_seat.1.cls = true := by decide +kernel
def mX5_elect : gw_M := (yX5_elect, cX5_elect, 2, (some .int), 1, 24)
set_option maxRecDepth 20000 in
theorem cb_X5_elect : CLb mX5_elect 1 := ⟨t4 (List.mem_of_getElem? (i := 52) rfl), t1 (List.mem_of_getElem? (i := 5) rfl), ⟨by decide +kernel, by decide +kernel⟩, by decide +kernel⟩
set_option maxRecDepth 20000 in
theorem im_X5_elect : Cond.instanceMethod yX5_elect ∈ lw_tbl := t4 (List.mem_of_getElem? (i := 50) rfl)
set_option maxRecDepth 20000 in
theorem se_X5_elect : Cond.selects yX5_elect.cls yX5_elect yX5_elect ∈ lw_tbl := t4 (List.mem_of_getElem? (i := 51) rfl)
theorem pn_X5_elect : plainName mX5_elect.1.cls = true := by decide +kernel
def mX5_put : gw_M := (yX5_put, cX5_put, 4, (some .int), 2, 43)
set_option maxRecDepth 20000 in
theorem cb_X5_put : CLb mX5_put 3 := ⟨t4 (List.mem_of_getElem? (i := 64) rfl), t1 (List.mem_of_getElem? (i := 5) rfl), ⟨by decide +kernel, by decide +kernel⟩, by decide +kernel⟩
set_option maxRecDepth 20000 in
theorem im_X5_put : Cond.instanceMethod yX5_put ∈ lw_tbl := t4 (List.mem_of_getElem? (i := 62) rfl)
set_option maxRecDepth 20000 in
theorem se_X5_put : Cond.selects yX5_put.cls yX5_put yX5_put ∈ lw_tbl := t4 (List.mem_of_getElem? (i := 63) rfl)
theorem pn_X5_put : plainName mX5_put.1.cls = true := by decide +kernel
def mX5_leave : gw_M := (yX5_leave, cX5_leave, 3, (some .int), 2, 43)
set_option maxRecDepth 20000 in
theorem cb_X5_leave : CLb mX5_leave 1 := ⟨t4 (List.mem_of_getElem? (i := 72) rfl), t1 (List.mem_of_getElem? (i := 5) rfl), ⟨by decide +kernel, by decide +kernel⟩, by decide +kernel⟩
set_option maxRecDepth 20000 in
theorem im_X5_leave : Cond.instanceMethod yX5_leave ∈ lw_tbl := t4 (List.mem_of_getElem? (i := 70) rfl)
set_option maxRecDepth 20000 in
theorem se_X5_leave : Cond.selects yX5_leave.cls yX5_leave yX5_leave ∈ lw_tbl := t4 (List.mem_of_getElem? (i := 71) rfl)
theorem pn_X5_leave : plainName mX5_leave.1.cls = true := by decide +kernel
def mX5_ringerTold : gw_M := (yX5_ringerTold, cX5_ringerTold, 7, (some .int), 0, 0)
set_option maxRecDepth 20000 in
theorem cb_X5_ringerTold : CLb mX5_ringerTold 3 := ⟨t4 (List.mem_of_getElem? (i := 80) rfl), t1 (List.mem_of_getElem? (i := 5) rfl), ⟨by decide +kernel, by decide +kernel⟩, by decide +kernel⟩
set_option maxRecDepth 20000 in
theorem im_X5_ringerTold : Cond.instanceMethod yX5_ringerTold ∈ lw_tbl := t4 (List.mem_of_getElem? (i := 79) rfl)
set_option maxRecDepth 20000 in
theorem se_X5_ringerTold : Cond.selects yX5_ringerTold.cls yX5_ringerTold yX5_ringerTold ∈ lw_tbl := List.mem_append_left _ (List.mem_of_getElem? (i := 17) rfl)
theorem pn_X5_ringerTold : plainName mX5_ringerTold.1.cls = true := by decide +kernel
def mX5_told : gw_M := (yX5_told, cX5_told, 3, (some .int), 2, 43)
set_option maxRecDepth 20000 in
theorem cb_X5_told : CLb mX5_told 2 := ⟨t4 (List.mem_of_getElem? (i := 76) rfl), t1 (List.mem_of_getElem? (i := 5) rfl), ⟨by decide +kernel, by decide +kernel⟩, by decide +kernel⟩
set_option maxRecDepth 20000 in
theorem im_X5_told : Cond.instanceMethod yX5_told ∈ lw_tbl := t4 (List.mem_of_getElem? (i := 74) rfl)
set_option maxRecDepth 20000 in
theorem se_X5_told : Cond.selects yX5_told.cls yX5_told yX5_told ∈ lw_tbl := t4 (List.mem_of_getElem? (i := 75) rfl)
theorem pn_X5_told : plainName mX5_told.1.cls = true := by decide +kernel
def mX5_bellTold : gw_M := (yX5_bellTold, cX5_bellTold, 5, (some .int), 3, 103)
set_option maxRecDepth 20000 in
theorem cb_X5_bellTold : CLb mX5_bellTold 3 := ⟨t4 (List.mem_of_getElem? (i := 88) rfl), t1 (List.mem_of_getElem? (i := 5) rfl), ⟨by decide +kernel, by decide +kernel⟩, by decide +kernel⟩
set_option maxRecDepth 20000 in
theorem im_X5_bellTold : Cond.instanceMethod yX5_bellTold ∈ lw_tbl := t4 (List.mem_of_getElem? (i := 87) rfl)
set_option maxRecDepth 20000 in
theorem se_X5_bellTold : Cond.selects yX5_bellTold.cls yX5_bellTold yX5_bellTold ∈ lw_tbl := List.mem_append_left _ (List.mem_of_getElem? (i := 18) rfl)
theorem pn_X5_bellTold : plainName mX5_bellTold.1.cls = true := by decide +kernel
def mX5_bell : gw_M := (yX5_bell, cX5_bell, 4, (some .int), 4, 127)
set_option maxRecDepth 20000 in
theorem cb_X5_bell : CLb mX5_bell 3 := ⟨t4 (List.mem_of_getElem? (i := 84) rfl), t1 (List.mem_of_getElem? (i := 5) rfl), ⟨by decide +kernel, by decide +kernel⟩, by decide +kernel⟩
set_option maxRecDepth 20000 in
theorem im_X5_bell : Cond.instanceMethod yX5_bell ∈ lw_tbl := t4 (List.mem_of_getElem? (i := 82) rfl)
set_option maxRecDepth 20000 in
theorem se_X5_bell : Cond.selects yX5_bell.cls yX5_bell yX5_bell ∈ lw_tbl := t4 (List.mem_of_getElem? (i := 83) rfl)
theorem pn_X5_bell : plainName mX5_bell.1.cls = true := by decide +kernel
def mX5_method : gw_M := (yX5_method, cX5_method, 1, (some .int), 1, 21)
set_option maxRecDepth 20000 in
theorem cb_X5_method : CLb mX5_method 0 := ⟨t4 (List.mem_of_getElem? (i := 101) rfl), t1 (List.mem_of_getElem? (i := 5) rfl), ⟨by decide +kernel, by decide +kernel⟩, by decide +kernel⟩
set_option maxRecDepth 20000 in
theorem im_X5_method : Cond.instanceMethod yX5_method ∈ lw_tbl := t4 (List.mem_of_getElem? (i := 99) rfl)
set_option maxRecDepth 20000 in
theorem se_X5_method : Cond.selects yX5_method.cls yX5_method yX5_method ∈ lw_tbl := t4 (List.mem_of_getElem? (i := 100) rfl)
theorem pn_X5_method : plainName mX5_method.1.cls = true := by decide +kernel
def mX5_add : gw_M := (yX5_add, cX5_add, 3, (some .int), 2, 43)
set_option maxRecDepth 20000 in
theorem cb_X5_add : CLb mX5_add 2 := ⟨t4 (List.mem_of_getElem? (i := 105) rfl), t1 (List.mem_of_getElem? (i := 5) rfl), ⟨by decide +kernel, by decide +kernel⟩, by decide +kernel⟩
set_option maxRecDepth 20000 in
theorem im_X5_add : Cond.instanceMethod yX5_add ∈ lw_tbl := t4 (List.mem_of_getElem? (i := 103) rfl)
set_option maxRecDepth 20000 in
theorem se_X5_add : Cond.selects yX5_add.cls yX5_add yX5_add ∈ lw_tbl := t4 (List.mem_of_getElem? (i := 104) rfl)
theorem pn_X5_add : plainName mX5_add.1.cls = true := by decide +kernel
def mX5_methodTold : gw_M := (yX5_methodTold, cX5_methodTold, 9, (some .int), 4, 96)
set_option maxRecDepth 20000 in
theorem cb_X5_methodTold : CLb mX5_methodTold 2 := ⟨t4 (List.mem_of_getElem? (i := 117) rfl), t1 (List.mem_of_getElem? (i := 5) rfl), ⟨by decide +kernel, by decide +kernel⟩, by decide +kernel⟩
set_option maxRecDepth 20000 in
theorem im_X5_methodTold : Cond.instanceMethod yX5_methodTold ∈ lw_tbl := t4 (List.mem_of_getElem? (i := 116) rfl)
set_option maxRecDepth 20000 in
theorem se_X5_methodTold : Cond.selects yX5_methodTold.cls yX5_methodTold yX5_methodTold ∈ lw_tbl := List.mem_append_left _ (List.mem_of_getElem? (i := 21) rfl)
theorem pn_X5_methodTold : plainName mX5_methodTold.1.cls = true := by decide +kernel
def mX5_about : gw_M := (yX5_about, cX5_about, 3, (some .int), 5, 124)
set_option maxRecDepth 20000 in
theorem cb_X5_about : CLb mX5_about 2 := ⟨t4 (List.mem_of_getElem? (i := 113) rfl), t1 (List.mem_of_getElem? (i := 5) rfl), ⟨by decide +kernel, by decide +kernel⟩, by decide +kernel⟩
set_option maxRecDepth 20000 in
theorem im_X5_about : Cond.instanceMethod yX5_about ∈ lw_tbl := t4 (List.mem_of_getElem? (i := 111) rfl)
set_option maxRecDepth 20000 in
theorem se_X5_about : Cond.selects yX5_about.cls yX5_about yX5_about ∈ lw_tbl := t4 (List.mem_of_getElem? (i := 112) rfl)
theorem pn_X5_about : plainName mX5_about.1.cls = true := by decide +kernel
def mX5_row : gw_M := (yX5_row, cX5_row, 3, (some .int), 2, 52)
set_option maxRecDepth 20000 in
theorem cb_X5_row : CLb mX5_row 2 := ⟨t4 (List.mem_of_getElem? (i := 149) rfl), t1 (List.mem_of_getElem? (i := 5) rfl), ⟨by decide +kernel, by decide +kernel⟩, by decide +kernel⟩
set_option maxRecDepth 20000 in
theorem im_X5_row : Cond.instanceMethod yX5_row ∈ lw_tbl := t4 (List.mem_of_getElem? (i := 147) rfl)
set_option maxRecDepth 20000 in
theorem se_X5_row : Cond.selects yX5_row.cls yX5_row yX5_row ∈ lw_tbl := t4 (List.mem_of_getElem? (i := 148) rfl)
theorem pn_X5_row : plainName mX5_row.1.cls = true := by decide +kernel
def mX5_dodges : gw_M := (yX5_dodges, cX5_dodges, 3, (some .int), 4, 96)
set_option maxRecDepth 20000 in
theorem cb_X5_dodges : CLb mX5_dodges 2 := ⟨t4 (List.mem_of_getElem? (i := 153) rfl), t1 (List.mem_of_getElem? (i := 5) rfl), ⟨by decide +kernel, by decide +kernel⟩, by decide +kernel⟩
set_option maxRecDepth 20000 in
theorem im_X5_dodges : Cond.instanceMethod yX5_dodges ∈ lw_tbl := t4 (List.mem_of_getElem? (i := 151) rfl)
set_option maxRecDepth 20000 in
theorem se_X5_dodges : Cond.selects yX5_dodges.cls yX5_dodges yX5_dodges ∈ lw_tbl := t4 (List.mem_of_getElem? (i := 152) rfl)
theorem pn_X5_dodges : plainName mX5_dodges.1.cls = true := by decide +kernel
def mX5_ring : gw_M := (yX5_ring, cX5_ring, 5, (some .int), 4, 102)
set_option maxRecDepth 20000 in
theorem cb_X5_ring : CLb mX5_ring 3 := ⟨t4 (List.mem_of_getElem? (i := 157) rfl), t1 (List.mem_of_getElem? (i := 5) rfl), ⟨by decide +kernel, by decide +kernel⟩, by decide +kernel⟩
set_option maxRecDepth 20000 in
theorem im_X5_ring : Cond.instanceMethod yX5_ring ∈ lw_tbl := t4 (List.mem_of_getElem? (i := 155) rfl)
set_option maxRecDepth 20000 in
theorem se_X5_ring : Cond.selects yX5_ring.cls yX5_ring yX5_ring ∈ lw_tbl := t4 (List.mem_of_getElem? (i := 156) rfl)
theorem pn_X5_ring : plainName mX5_ring.1.cls = true := by decide +kernel
def mX5_wouldBring : gw_M := (yX5_wouldBring, cX5_wouldBring, 4, (some .int), 4, 103)
set_option maxRecDepth 20000 in
theorem cb_X5_wouldBring : CLb mX5_wouldBring 3 := ⟨t4 (List.mem_of_getElem? (i := 178) rfl), t1 (List.mem_of_getElem? (i := 5) rfl), ⟨by decide +kernel, by decide +kernel⟩, by decide +kernel⟩
set_option maxRecDepth 20000 in
theorem im_X5_wouldBring : Cond.instanceMethod yX5_wouldBring ∈ lw_tbl := t4 (List.mem_of_getElem? (i := 177) rfl)
set_option maxRecDepth 20000 in
theorem se_X5_wouldBring : Cond.selects yX5_wouldBring.cls yX5_wouldBring yX5_wouldBring ∈ lw_tbl := List.mem_append_left _ (List.mem_of_getElem? (i := 29) rfl)
theorem pn_X5_wouldBring : plainName mX5_wouldBring.1.cls = true := by decide +kernel
def mX5_would : gw_M := (yX5_would, cX5_would, 4, (some .int), 5, 126)
set_option maxRecDepth 20000 in
theorem cb_X5_would : CLb mX5_would 3 := ⟨t4 (List.mem_of_getElem? (i := 174) rfl), t1 (List.mem_of_getElem? (i := 5) rfl), ⟨by decide +kernel, by decide +kernel⟩, by decide +kernel⟩
set_option maxRecDepth 20000 in
theorem im_X5_would : Cond.instanceMethod yX5_would ∈ lw_tbl := t4 (List.mem_of_getElem? (i := 172) rfl)
set_option maxRecDepth 20000 in
theorem se_X5_would : Cond.selects yX5_would.cls yX5_would yX5_would ∈ lw_tbl := t4 (List.mem_of_getElem? (i := 173) rfl)
theorem pn_X5_would : plainName mX5_would.1.cls = true := by decide +kernel
def mX5_advise : gw_M := (yX5_advise, cX5_advise, 6, (some .int), 5, 126)
set_option maxRecDepth 20000 in
theorem cb_X5_advise : CLb mX5_advise 1 := ⟨t4 (List.mem_of_getElem? (i := 186) rfl), t1 (List.mem_of_getElem? (i := 5) rfl), ⟨by decide +kernel, by decide +kernel⟩, by decide +kernel⟩
set_option maxRecDepth 20000 in
theorem im_X5_advise : Cond.instanceMethod yX5_advise ∈ lw_tbl := t4 (List.mem_of_getElem? (i := 184) rfl)
set_option maxRecDepth 20000 in
theorem se_X5_advise : Cond.selects yX5_advise.cls yX5_advise yX5_advise ∈ lw_tbl := t4 (List.mem_of_getElem? (i := 185) rfl)
theorem pn_X5_advise : plainName mX5_advise.1.cls = true := by decide +kernel
def mX5_counted : gw_M := (yX5_counted, cX5_counted, 6, (some .int), 1, 23)
set_option maxRecDepth 20000 in
theorem cb_X5_counted : CLb mX5_counted 1 := ⟨t4 (List.mem_of_getElem? (i := 194) rfl), t1 (List.mem_of_getElem? (i := 5) rfl), ⟨by decide +kernel, by decide +kernel⟩, by decide +kernel⟩
set_option maxRecDepth 20000 in
theorem im_X5_counted : Cond.instanceMethod yX5_counted ∈ lw_tbl := t4 (List.mem_of_getElem? (i := 193) rfl)
set_option maxRecDepth 20000 in
theorem se_X5_counted : Cond.selects yX5_counted.cls yX5_counted yX5_counted ∈ lw_tbl := List.mem_append_left _ (List.mem_of_getElem? (i := 30) rfl)
theorem pn_X5_counted : plainName mX5_counted.1.cls = true := by decide +kernel
def mX5_count : gw_M := (yX5_count, cX5_count, 2, (some .int), 2, 48)
set_option maxRecDepth 20000 in
theorem cb_X5_count : CLb mX5_count 1 := ⟨t4 (List.mem_of_getElem? (i := 190) rfl), t1 (List.mem_of_getElem? (i := 5) rfl), ⟨by decide +kernel, by decide +kernel⟩, by decide +kernel⟩
set_option maxRecDepth 20000 in
theorem im_X5_count : Cond.instanceMethod yX5_count ∈ lw_tbl := t4 (List.mem_of_getElem? (i := 188) rfl)
set_option maxRecDepth 20000 in
theorem se_X5_count : Cond.selects yX5_count.cls yX5_count yX5_count ∈ lw_tbl := t4 (List.mem_of_getElem? (i := 189) rfl)
theorem pn_X5_count : plainName mX5_count.1.cls = true := by decide +kernel
def mX5_pass : gw_M := (yX5_pass, cX5_pass, 5, (some .int), 3, 67)
set_option maxRecDepth 20000 in
theorem cb_X5_pass : CLb mX5_pass 1 := ⟨t4 (List.mem_of_getElem? (i := 198) rfl), t1 (List.mem_of_getElem? (i := 5) rfl), ⟨by decide +kernel, by decide +kernel⟩, by decide +kernel⟩
set_option maxRecDepth 20000 in
theorem im_X5_pass : Cond.instanceMethod yX5_pass ∈ lw_tbl := t4 (List.mem_of_getElem? (i := 196) rfl)
set_option maxRecDepth 20000 in
theorem se_X5_pass : Cond.selects yX5_pass.cls yX5_pass yX5_pass ∈ lw_tbl := t4 (List.mem_of_getElem? (i := 197) rfl)
theorem pn_X5_pass : plainName mX5_pass.1.cls = true := by decide +kernel
def mX5_foresee : gw_M := (yX5_foresee, cX5_foresee, 4, (some .int), 3, 103)
set_option maxRecDepth 20000 in
theorem cb_X5_foresee : CLb mX5_foresee 3 := ⟨t4 (List.mem_of_getElem? (i := 218) rfl), t1 (List.mem_of_getElem? (i := 5) rfl), ⟨by decide +kernel, by decide +kernel⟩, by decide +kernel⟩
set_option maxRecDepth 20000 in
theorem im_X5_foresee : Cond.instanceMethod yX5_foresee ∈ lw_tbl := t4 (List.mem_of_getElem? (i := 216) rfl)
set_option maxRecDepth 20000 in
theorem se_X5_foresee : Cond.selects yX5_foresee.cls yX5_foresee yX5_foresee ∈ lw_tbl := t4 (List.mem_of_getElem? (i := 217) rfl)
theorem pn_X5_foresee : plainName mX5_foresee.1.cls = true := by decide +kernel
def mX5_mean : gw_M := (yX5_mean, cX5_mean, 4, (some .double), 0, 0)
set_option maxRecDepth 20000 in
theorem cb_X5_mean : CLb mX5_mean 0 := ⟨t4 (List.mem_of_getElem? (i := 222) rfl), t1 (List.mem_of_getElem? (i := 5) rfl), ⟨by decide +kernel, by decide +kernel⟩, by decide +kernel⟩
set_option maxRecDepth 20000 in
theorem im_X5_mean : Cond.instanceMethod yX5_mean ∈ lw_tbl := t4 (List.mem_of_getElem? (i := 220) rfl)
set_option maxRecDepth 20000 in
theorem se_X5_mean : Cond.selects yX5_mean.cls yX5_mean yX5_mean ∈ lw_tbl := t4 (List.mem_of_getElem? (i := 221) rfl)
theorem pn_X5_mean : plainName mX5_mean.1.cls = true := by decide +kernel
def mX5_digest : gw_M := (yX5_digest, cX5_digest, 5, (some .long), 5, 127)
set_option maxRecDepth 20000 in
theorem cb_X5_digest : CLb mX5_digest 0 := ⟨t4 (List.mem_of_getElem? (i := 226) rfl), t1 (List.mem_of_getElem? (i := 5) rfl), ⟨by decide +kernel, by decide +kernel⟩, by decide +kernel⟩
set_option maxRecDepth 20000 in
theorem im_X5_digest : Cond.instanceMethod yX5_digest ∈ lw_tbl := t4 (List.mem_of_getElem? (i := 224) rfl)
set_option maxRecDepth 20000 in
theorem se_X5_digest : Cond.selects yX5_digest.cls yX5_digest yX5_digest ∈ lw_tbl := t4 (List.mem_of_getElem? (i := 225) rfl)
theorem pn_X5_digest : plainName mX5_digest.1.cls = true := by decide +kernel
def mX0_init : gw_M := (yX0_init, cX0_init, 1, none, 1, 20)
set_option maxRecDepth 20000 in
theorem cb_X0_init : CLb mX0_init 0 := ⟨t1 (List.mem_of_getElem? (i := 98) rfl), t1 (List.mem_of_getElem? (i := 4) rfl), ⟨by decide +kernel, by decide +kernel⟩, by decide +kernel⟩
set_option maxRecDepth 20000 in
theorem im_X0_init : Cond.instanceMethod yX0_init ∈ lw_tbl := t1 (List.mem_of_getElem? (i := 97) rfl)
theorem pn_X0_init : plainName mX0_init.1.cls = true := by decide +kernel
def mX0_changeAt : gw_M := (yX0_changeAt, cX0_changeAt, 2, (some .int), 0, 0)
set_option maxRecDepth 20000 in
theorem cb_X0_changeAt : CLb mX0_changeAt 1 := ⟨t2 (List.mem_of_getElem? (i := 101) rfl), t1 (List.mem_of_getElem? (i := 4) rfl), ⟨by decide +kernel, by decide +kernel⟩, by decide +kernel⟩
set_option maxRecDepth 20000 in
theorem im_X0_changeAt : Cond.instanceMethod yX0_changeAt ∈ lw_tbl := t2 (List.mem_of_getElem? (i := 99) rfl)
set_option maxRecDepth 20000 in
theorem se_X0_changeAt : Cond.selects yX0_changeAt.cls yX0_changeAt yX0_changeAt ∈ lw_tbl := t2 (List.mem_of_getElem? (i := 100) rfl)
theorem pn_X0_changeAt : plainName mX0_changeAt.1.cls = true := by decide +kernel
def mX0_append : gw_M := (yX0_append, cX0_append, 2, none, 0, 0)
set_option maxRecDepth 20000 in
theorem cb_X0_append : CLb mX0_append 1 := ⟨t2 (List.mem_of_getElem? (i := 235) rfl), t1 (List.mem_of_getElem? (i := 4) rfl), ⟨by decide +kernel, by decide +kernel⟩, by decide +kernel⟩
set_option maxRecDepth 20000 in
theorem im_X0_append : Cond.instanceMethod yX0_append ∈ lw_tbl := t2 (List.mem_of_getElem? (i := 233) rfl)
set_option maxRecDepth 20000 in
theorem se_X0_append : Cond.selects yX0_append.cls yX0_append yX0_append ∈ lw_tbl := t2 (List.mem_of_getElem? (i := 234) rfl)
theorem pn_X0_append : plainName mX0_append.1.cls = true := by decide +kernel
def mX0_measureCourse : gw_M := (yX0_measureCourse, cX0_measureCourse, 3, none, 3, 70)
set_option maxRecDepth 20000 in
theorem cb_X0_measureCourse : CLb mX0_measureCourse 1 := ⟨t2 (List.mem_of_getElem? (i := 239) rfl), t1 (List.mem_of_getElem? (i := 4) rfl), ⟨by decide +kernel, by decide +kernel⟩, by decide +kernel⟩
set_option maxRecDepth 20000 in
theorem im_X0_measureCourse : Cond.instanceMethod yX0_measureCourse ∈ lw_tbl := t2 (List.mem_of_getElem? (i := 237) rfl)
set_option maxRecDepth 20000 in
theorem se_X0_measureCourse : Cond.selects yX0_measureCourse.cls yX0_measureCourse yX0_measureCourse ∈ lw_tbl := t2 (List.mem_of_getElem? (i := 238) rfl)
theorem pn_X0_measureCourse : plainName mX0_measureCourse.1.cls = true := by decide +kernel
def mX0_goThroughLead : gw_M := (yX0_goThroughLead, cX0_goThroughLead, 4, none, 2, 47)
set_option maxRecDepth 20000 in
theorem cb_X0_goThroughLead : CLb mX0_goThroughLead 1 := ⟨t3 (List.mem_of_getElem? (i := 17) rfl), t1 (List.mem_of_getElem? (i := 4) rfl), ⟨by decide +kernel, by decide +kernel⟩, by decide +kernel⟩
set_option maxRecDepth 20000 in
theorem im_X0_goThroughLead : Cond.instanceMethod yX0_goThroughLead ∈ lw_tbl := t3 (List.mem_of_getElem? (i := 16) rfl)
set_option maxRecDepth 20000 in
theorem se_X0_goThroughLead : Cond.selects yX0_goThroughLead.cls yX0_goThroughLead yX0_goThroughLead ∈ lw_tbl := List.mem_append_left _ (List.mem_of_getElem? (i := 8) rfl)
theorem pn_X0_goThroughLead : plainName mX0_goThroughLead.1.cls = true := by decide +kernel
def mX0_tellOfCourse : gw_M := (yX0_tellOfCourse, cX0_tellOfCourse, 2, (some .int), 1, 22)
set_option maxRecDepth 20000 in
theorem cb_X0_tellOfCourse : CLb mX0_tellOfCourse 1 := ⟨t2 (List.mem_of_getElem? (i := 93) rfl), t1 (List.mem_of_getElem? (i := 4) rfl), ⟨by decide +kernel, by decide +kernel⟩, by decide +kernel⟩
set_option maxRecDepth 20000 in
theorem im_X0_tellOfCourse : Cond.instanceMethod yX0_tellOfCourse ∈ lw_tbl := t2 (List.mem_of_getElem? (i := 91) rfl)
set_option maxRecDepth 20000 in
theorem se_X0_tellOfCourse : Cond.selects yX0_tellOfCourse.cls yX0_tellOfCourse yX0_tellOfCourse ∈ lw_tbl := t2 (List.mem_of_getElem? (i := 92) rfl)
theorem pn_X0_tellOfCourse : plainName mX0_tellOfCourse.1.cls = true := by decide +kernel
def mX0_allDodges : gw_M := (yX0_allDodges, cX0_allDodges, 3, (some .int), 0, 0)
set_option maxRecDepth 20000 in
theorem cb_X0_allDodges : CLb mX0_allDodges 0 := ⟨t2 (List.mem_of_getElem? (i := 97) rfl), t1 (List.mem_of_getElem? (i := 4) rfl), ⟨by decide +kernel, by decide +kernel⟩, by decide +kernel⟩
set_option maxRecDepth 20000 in
theorem im_X0_allDodges : Cond.instanceMethod yX0_allDodges ∈ lw_tbl := t2 (List.mem_of_getElem? (i := 96) rfl)
set_option maxRecDepth 20000 in
theorem se_X0_allDodges : Cond.selects yX0_allDodges.cls yX0_allDodges yX0_allDodges ∈ lw_tbl := List.mem_append_left _ (List.mem_of_getElem? (i := 6) rfl)
theorem pn_X0_allDodges : plainName mX0_allDodges.1.cls = true := by decide +kernel
def mX1_init : gw_M := (yX1_init, cX1_init, 1, none, 1, 20)
set_option maxRecDepth 20000 in
theorem cb_X1_init : CLb mX1_init 0 := ⟨t1 (List.mem_of_getElem? (i := 71) rfl), t1 (List.mem_of_getElem? (i := 3) rfl), ⟨by decide +kernel, by decide +kernel⟩, by decide +kernel⟩
set_option maxRecDepth 20000 in
theorem im_X1_init : Cond.instanceMethod yX1_init ∈ lw_tbl := t1 (List.mem_of_getElem? (i := 70) rfl)
theorem pn_X1_init : plainName mX1_init.1.cls = true := by decide +kernel
def mX1_begin : gw_M := (yX1_begin, cX1_begin, 2, none, 1, 24)
set_option maxRecDepth 20000 in
theorem cb_X1_begin : CLb mX1_begin 0 := ⟨t3 (List.mem_of_getElem? (i := 6) rfl), t1 (List.mem_of_getElem? (i := 3) rfl), ⟨by decide +kernel, by decide +kernel⟩, by decide +kernel⟩
set_option maxRecDepth 20000 in
theorem im_X1_begin : Cond.instanceMethod yX1_begin ∈ lw_tbl := t3 (List.mem_of_getElem? (i := 4) rfl)
set_option maxRecDepth 20000 in
theorem se_X1_begin : Cond.selects yX1_begin.cls yX1_begin yX1_begin ∈ lw_tbl := t3 (List.mem_of_getElem? (i := 5) rfl)
theorem pn_X1_begin : plainName mX1_begin.1.cls = true := by decide +kernel
def mX1_makeChange : gw_M := (yX1_makeChange, cX1_makeChange, 4, none, 1, 24)
set_option maxRecDepth 20000 in
theorem cb_X1_makeChange : CLb mX1_makeChange 1 := ⟨t3 (List.mem_of_getElem? (i := 21) rfl), t1 (List.mem_of_getElem? (i := 3) rfl), ⟨by decide +kernel, by decide +kernel⟩, by decide +kernel⟩
set_option maxRecDepth 20000 in
theorem im_X1_makeChange : Cond.instanceMethod yX1_makeChange ∈ lw_tbl := t3 (List.mem_of_getElem? (i := 19) rfl)
set_option maxRecDepth 20000 in
theorem se_X1_makeChange : Cond.selects yX1_makeChange.cls yX1_makeChange yX1_makeChange ∈ lw_tbl := t3 (List.mem_of_getElem? (i := 20) rfl)
theorem pn_X1_makeChange : plainName mX1_makeChange.1.cls = true := by decide +kernel
def mX1_moveFrom : gw_M := (yX1_moveFrom, cX1_moveFrom, 2, (some .int), 0, 0)
set_option maxRecDepth 20000 in
theorem cb_X1_moveFrom : CLb mX1_moveFrom 2 := ⟨t3 (List.mem_of_getElem? (i := 24) rfl), t1 (List.mem_of_getElem? (i := 3) rfl), ⟨by decide +kernel, by decide +kernel⟩, by decide +kernel⟩
set_option maxRecDepth 20000 in
theorem st_X1_moveFrom : Cond.static yX1_moveFrom ∈ lw_tbl := t3 (List.mem_of_getElem? (i := 23) rfl)
theorem pn_X1_moveFrom : plainName mX1_moveFrom.1.cls = true := by decide +kernel
def mX1_noteRow : gw_M := (yX1_noteRow, cX1_noteRow, 5, none, 0, 0)
set_option maxRecDepth 20000 in
theorem cb_X1_noteRow : CLb mX1_noteRow 0 := ⟨t3 (List.mem_of_getElem? (i := 13) rfl), t1 (List.mem_of_getElem? (i := 3) rfl), ⟨by decide +kernel, by decide +kernel⟩, by decide +kernel⟩
set_option maxRecDepth 20000 in
theorem im_X1_noteRow : Cond.instanceMethod yX1_noteRow ∈ lw_tbl := t3 (List.mem_of_getElem? (i := 12) rfl)
set_option maxRecDepth 20000 in
theorem se_X1_noteRow : Cond.selects yX1_noteRow.cls yX1_noteRow yX1_noteRow ∈ lw_tbl := List.mem_append_left _ (List.mem_of_getElem? (i := 7) rfl)
theorem pn_X1_noteRow : plainName mX1_noteRow.1.cls = true := by decide +kernel
def mX1_hasDodged : gw_M := (yX1_hasDodged, cX1_hasDodged, 2, (some .boolean), 0, 0)
set_option maxRecDepth 20000 in
theorem cb_X1_hasDodged : CLb mX1_hasDodged 1 := ⟨t3 (List.mem_of_getElem? (i := 28) rfl), t1 (List.mem_of_getElem? (i := 3) rfl), ⟨by decide +kernel, by decide +kernel⟩, by decide +kernel⟩
set_option maxRecDepth 20000 in
theorem im_X1_hasDodged : Cond.instanceMethod yX1_hasDodged ∈ lw_tbl := t3 (List.mem_of_getElem? (i := 26) rfl)
set_option maxRecDepth 20000 in
theorem se_X1_hasDodged : Cond.selects yX1_hasDodged.cls yX1_hasDodged yX1_hasDodged ∈ lw_tbl := t3 (List.mem_of_getElem? (i := 27) rfl)
theorem pn_X1_hasDodged : plainName mX1_hasDodged.1.cls = true := by decide +kernel
def mX1_bellsAtHome : gw_M := (yX1_bellsAtHome, cX1_bellsAtHome, 3, (some .int), 0, 0)
set_option maxRecDepth 20000 in
theorem cb_X1_bellsAtHome : CLb mX1_bellsAtHome 0 := ⟨t3 (List.mem_of_getElem? (i := 32) rfl), t1 (List.mem_of_getElem? (i := 3) rfl), ⟨by decide +kernel, by decide +kernel⟩, by decide +kernel⟩
set_option maxRecDepth 20000 in
theorem im_X1_bellsAtHome : Cond.instanceMethod yX1_bellsAtHome ∈ lw_tbl := t3 (List.mem_of_getElem? (i := 30) rfl)
set_option maxRecDepth 20000 in
theorem se_X1_bellsAtHome : Cond.selects yX1_bellsAtHome.cls yX1_bellsAtHome yX1_bellsAtHome ∈ lw_tbl := t3 (List.mem_of_getElem? (i := 31) rfl)
theorem pn_X1_bellsAtHome : plainName mX1_bellsAtHome.1.cls = true := by decide +kernel
def mX1_isRounds : gw_M := (yX1_isRounds, cX1_isRounds, 1, (some .boolean), 1, 22)
set_option maxRecDepth 20000 in
theorem cb_X1_isRounds : CLb mX1_isRounds 0 := ⟨t3 (List.mem_of_getElem? (i := 36) rfl), t1 (List.mem_of_getElem? (i := 3) rfl), ⟨by decide +kernel, by decide +kernel⟩, by decide +kernel⟩
set_option maxRecDepth 20000 in
theorem im_X1_isRounds : Cond.instanceMethod yX1_isRounds ∈ lw_tbl := t3 (List.mem_of_getElem? (i := 34) rfl)
set_option maxRecDepth 20000 in
theorem se_X1_isRounds : Cond.selects yX1_isRounds.cls yX1_isRounds yX1_isRounds ∈ lw_tbl := t3 (List.mem_of_getElem? (i := 35) rfl)
theorem pn_X1_isRounds : plainName mX1_isRounds.1.cls = true := by decide +kernel
def mX1_falseRows : gw_M := (yX1_falseRows, cX1_falseRows, 1, (some .int), 2, 42)
set_option maxRecDepth 20000 in
theorem cb_X1_falseRows : CLb mX1_falseRows 0 := ⟨t3 (List.mem_of_getElem? (i := 45) rfl), t1 (List.mem_of_getElem? (i := 3) rfl), ⟨by decide +kernel, by decide +kernel⟩, by decide +kernel⟩
set_option maxRecDepth 20000 in
theorem im_X1_falseRows : Cond.instanceMethod yX1_falseRows ∈ lw_tbl := t3 (List.mem_of_getElem? (i := 43) rfl)
set_option maxRecDepth 20000 in
theorem se_X1_falseRows : Cond.selects yX1_falseRows.cls yX1_falseRows yX1_falseRows ∈ lw_tbl := t3 (List.mem_of_getElem? (i := 44) rfl)
theorem pn_X1_falseRows : plainName mX1_falseRows.1.cls = true := by decide +kernel
def mX1_differentRows : gw_M := (yX1_differentRows, cX1_differentRows, 1, (some .int), 0, 0)
set_option maxRecDepth 20000 in
theorem cb_X1_differentRows : CLb mX1_differentRows 0 := ⟨t3 (List.mem_of_getElem? (i := 41) rfl), t1 (List.mem_of_getElem? (i := 3) rfl), ⟨by decide +kernel, by decide +kernel⟩, by decide +kernel⟩
set_option maxRecDepth 20000 in
theorem im_X1_differentRows : Cond.instanceMethod yX1_differentRows ∈ lw_tbl := t3 (List.mem_of_getElem? (i := 39) rfl)
set_option maxRecDepth 20000 in
theorem se_X1_differentRows : Cond.selects yX1_differentRows.cls yX1_differentRows yX1_differentRows ∈ lw_tbl := t3 (List.mem_of_getElem? (i := 40) rfl)
theorem pn_X1_differentRows : plainName mX1_differentRows.1.cls = true := by decide +kernel
def mX1_rowCode : gw_M := (yX1_rowCode, cX1_rowCode, 3, (some .int), 1, 22)
set_option maxRecDepth 20000 in
theorem cb_X1_rowCode : CLb mX1_rowCode 0 := ⟨t3 (List.mem_of_getElem? (i := 64) rfl), t1 (List.mem_of_getElem? (i := 3) rfl), ⟨by decide +kernel, by decide +kernel⟩, by decide +kernel⟩
set_option maxRecDepth 20000 in
theorem im_X1_rowCode : Cond.instanceMethod yX1_rowCode ∈ lw_tbl := t3 (List.mem_of_getElem? (i := 62) rfl)
set_option maxRecDepth 20000 in
theorem se_X1_rowCode : Cond.selects yX1_rowCode.cls yX1_rowCode yX1_rowCode ∈ lw_tbl := t3 (List.mem_of_getElem? (i := 63) rfl)
theorem pn_X1_rowCode : plainName mX1_rowCode.1.cls = true := by decide +kernel
def mX1_bellAt : gw_M := (yX1_bellAt, cX1_bellAt, 3, (some .int), 0, 0)
set_option maxRecDepth 20000 in
theorem cb_X1_bellAt : CLb mX1_bellAt 1 := ⟨t3 (List.mem_of_getElem? (i := 68) rfl), t1 (List.mem_of_getElem? (i := 3) rfl), ⟨by decide +kernel, by decide +kernel⟩, by decide +kernel⟩
set_option maxRecDepth 20000 in
theorem im_X1_bellAt : Cond.instanceMethod yX1_bellAt ∈ lw_tbl := t3 (List.mem_of_getElem? (i := 67) rfl)
set_option maxRecDepth 20000 in
theorem se_X1_bellAt : Cond.selects yX1_bellAt.cls yX1_bellAt yX1_bellAt ∈ lw_tbl := List.mem_append_left _ (List.mem_of_getElem? (i := 9) rfl)
theorem pn_X1_bellAt : plainName mX1_bellAt.1.cls = true := by decide +kernel
def mX2_init : gw_M := (yX2_init, cX2_init, 2, none, 1, 20)
set_option maxRecDepth 20000 in
theorem cb_X2_init : CLb mX2_init 0 := ⟨t1 (List.mem_of_getElem? (i := 28) rfl), t1 (List.mem_of_getElem? (i := 2) rfl), ⟨by decide +kernel, by decide +kernel⟩, by decide +kernel⟩
set_option maxRecDepth 20000 in
theorem im_X2_init : Cond.instanceMethod yX2_init ∈ lw_tbl := t1 (List.mem_of_getElem? (i := 27) rfl)
theorem pn_X2_init : plainName mX2_init.1.cls = true := by decide +kernel
def mX2_copyFrom : gw_M := (yX2_copyFrom, cX2_copyFrom, 2, none, 1, 60)
set_option maxRecDepth 20000 in
theorem cb_X2_copyFrom : CLb mX2_copyFrom 1 := ⟨t2 (List.mem_of_getElem? (i := 66) rfl), t1 (List.mem_of_getElem? (i := 2) rfl), ⟨by decide +kernel, by decide +kernel⟩, by decide +kernel⟩
set_option maxRecDepth 20000 in
theorem im_X2_copyFrom : Cond.instanceMethod yX2_copyFrom ∈ lw_tbl := t2 (List.mem_of_getElem? (i := 64) rfl)
set_option maxRecDepth 20000 in
theorem se_X2_copyFrom : Cond.selects yX2_copyFrom.cls yX2_copyFrom yX2_copyFrom ∈ lw_tbl := t2 (List.mem_of_getElem? (i := 65) rfl)
theorem pn_X2_copyFrom : plainName mX2_copyFrom.1.cls = true := by decide +kernel
def mX2_enrol : gw_M := (yX2_enrol, cX2_enrol, 5, (some .int), 0, 0)
set_option maxRecDepth 20000 in
theorem cb_X2_enrol : CLb mX2_enrol 3 := ⟨t2 (List.mem_of_getElem? (i := 154) rfl), t1 (List.mem_of_getElem? (i := 2) rfl), ⟨by decide +kernel, by decide +kernel⟩, by decide +kernel⟩
set_option maxRecDepth 20000 in
theorem im_X2_enrol : Cond.instanceMethod yX2_enrol ∈ lw_tbl := t2 (List.mem_of_getElem? (i := 152) rfl)
set_option maxRecDepth 20000 in
theorem se_X2_enrol : Cond.selects yX2_enrol.cls yX2_enrol yX2_enrol ∈ lw_tbl := t2 (List.mem_of_getElem? (i := 153) rfl)
theorem pn_X2_enrol : plainName mX2_enrol.1.cls = true := by decide +kernel
def mX2_changeVotes : gw_M := (yX2_changeVotes, cX2_changeVotes, 3, none, 1, 21)
set_option maxRecDepth 20000 in
theorem cb_X2_changeVotes : CLb mX2_changeVotes 2 := ⟨t2 (List.mem_of_getElem? (i := 165) rfl), t1 (List.mem_of_getElem? (i := 2) rfl), ⟨by decide +kernel, by decide +kernel⟩, by decide +kernel⟩
set_option maxRecDepth 20000 in
theorem im_X2_changeVotes : Cond.instanceMethod yX2_changeVotes ∈ lw_tbl := t2 (List.mem_of_getElem? (i := 163) rfl)
set_option maxRecDepth 20000 in
theorem se_X2_changeVotes : Cond.selects yX2_changeVotes.cls yX2_changeVotes yX2_changeVotes ∈ lw_tbl := t2 (List.mem_of_getElem? (i := 164) rfl)
theorem pn_X2_changeVotes : plainName mX2_changeVotes.1.cls = true := by decide +kernel
def mX2_ringsBell : gw_M := (yX2_ringsBell, cX2_ringsBell, 2, (some .boolean), 0, 0)
set_option maxRecDepth 20000 in
theorem cb_X2_ringsBell : CLb mX2_ringsBell 1 := ⟨t1 (List.mem_of_getElem? (i := 167) rfl), t1 (List.mem_of_getElem? (i := 2) rfl), ⟨by decide +kernel, by decide +kernel⟩, by decide +kernel⟩
set_option maxRecDepth 20000 in
theorem im_X2_ringsBell : Cond.instanceMethod yX2_ringsBell ∈ lw_tbl := t1 (List.mem_of_getElem? (i := 165) rfl)
set_option maxRecDepth 20000 in
theorem se_X2_ringsBell : Cond.selects yX2_ringsBell.cls yX2_ringsBell yX2_ringsBell ∈ lw_tbl := t1 (List.mem_of_getElem? (i := 166) rfl)
theorem pn_X2_ringsBell : plainName mX2_ringsBell.1.cls = true := by decide +kernel
def mX2_bandOf : gw_M := (yX2_bandOf, cX2_bandOf, 2, (some .int), 1, 21)
set_option maxRecDepth 20000 in
theorem cb_X2_bandOf : CLb mX2_bandOf 1 := ⟨t1 (List.mem_of_getElem? (i := 163) rfl), t1 (List.mem_of_getElem? (i := 2) rfl), ⟨by decide +kernel, by decide +kernel⟩, by decide +kernel⟩
set_option maxRecDepth 20000 in
theorem im_X2_bandOf : Cond.instanceMethod yX2_bandOf ∈ lw_tbl := t1 (List.mem_of_getElem? (i := 161) rfl)
set_option maxRecDepth 20000 in
theorem se_X2_bandOf : Cond.selects yX2_bandOf.cls yX2_bandOf yX2_bandOf ∈ lw_tbl := t1 (List.mem_of_getElem? (i := 162) rfl)
theorem pn_X2_bandOf : plainName mX2_bandOf.1.cls = true := by decide +kernel
def mX2_bellOf : gw_M := (yX2_bellOf, cX2_bellOf, 2, (some .int), 1, 21)
set_option maxRecDepth 20000 in
theorem cb_X2_bellOf : CLb mX2_bellOf 1 := ⟨t2 (List.mem_of_getElem? (i := 40) rfl), t1 (List.mem_of_getElem? (i := 2) rfl), ⟨by decide +kernel, by decide +kernel⟩, by decide +kernel⟩
set_option maxRecDepth 20000 in
theorem im_X2_bellOf : Cond.instanceMethod yX2_bellOf ∈ lw_tbl := t2 (List.mem_of_getElem? (i := 38) rfl)
set_option maxRecDepth 20000 in
theorem se_X2_bellOf : Cond.selects yX2_bellOf.cls yX2_bellOf yX2_bellOf ∈ lw_tbl := t2 (List.mem_of_getElem? (i := 39) rfl)
theorem pn_X2_bellOf : plainName mX2_bellOf.1.cls = true := by decide +kernel
def mX2_ringerAt : gw_M := (yX2_ringerAt, cX2_ringerAt, 3, (some .int), 0, 0)
set_option maxRecDepth 20000 in
theorem cb_X2_ringerAt : CLb mX2_ringerAt 1 := ⟨t2 (List.mem_of_getElem? (i := 62) rfl), t1 (List.mem_of_getElem? (i := 2) rfl), ⟨by decide +kernel, by decide +kernel⟩, by decide +kernel⟩
set_option maxRecDepth 20000 in
theorem im_X2_ringerAt : Cond.instanceMethod yX2_ringerAt ∈ lw_tbl := t2 (List.mem_of_getElem? (i := 60) rfl)
set_option maxRecDepth 20000 in
theorem se_X2_ringerAt : Cond.selects yX2_ringerAt.cls yX2_ringerAt yX2_ringerAt ∈ lw_tbl := t2 (List.mem_of_getElem? (i := 61) rfl)
theorem pn_X2_ringerAt : plainName mX2_ringerAt.1.cls = true := by decide +kernel
def mX2_rankOf : gw_M := (yX2_rankOf, cX2_rankOf, 4, (some .int), 0, 0)
set_option maxRecDepth 20000 in
theorem cb_X2_rankOf : CLb mX2_rankOf 1 := ⟨t2 (List.mem_of_getElem? (i := 44) rfl), t1 (List.mem_of_getElem? (i := 2) rfl), ⟨by decide +kernel, by decide +kernel⟩, by decide +kernel⟩
set_option maxRecDepth 20000 in
theorem im_X2_rankOf : Cond.instanceMethod yX2_rankOf ∈ lw_tbl := t2 (List.mem_of_getElem? (i := 42) rfl)
set_option maxRecDepth 20000 in
theorem se_X2_rankOf : Cond.selects yX2_rankOf.cls yX2_rankOf yX2_rankOf ∈ lw_tbl := t2 (List.mem_of_getElem? (i := 43) rfl)
theorem pn_X2_rankOf : plainName mX2_rankOf.1.cls = true := by decide +kernel
def mX2_tellOfRinger : gw_M := (yX2_tellOfRinger, cX2_tellOfRinger, 3, (some .int), 2, 42)
set_option maxRecDepth 20000 in
theorem cb_X2_tellOfRinger : CLb mX2_tellOfRinger 2 := ⟨t2 (List.mem_of_getElem? (i := 36) rfl), t1 (List.mem_of_getElem? (i := 2) rfl), ⟨by decide +kernel, by decide +kernel⟩, by decide +kernel⟩
set_option maxRecDepth 20000 in
theorem im_X2_tellOfRinger : Cond.instanceMethod yX2_tellOfRinger ∈ lw_tbl := t2 (List.mem_of_getElem? (i := 34) rfl)
set_option maxRecDepth 20000 in
theorem se_X2_tellOfRinger : Cond.selects yX2_tellOfRinger.cls yX2_tellOfRinger yX2_tellOfRinger ∈ lw_tbl := t2 (List.mem_of_getElem? (i := 35) rfl)
theorem pn_X2_tellOfRinger : plainName mX2_tellOfRinger.1.cls = true := by decide +kernel
def mX2_electBand : gw_M := (yX2_electBand, cX2_electBand, 4, none, 2, 45)
set_option maxRecDepth 20000 in
theorem cb_X2_electBand : CLb mX2_electBand 1 := ⟨t2 (List.mem_of_getElem? (i := 73) rfl), t1 (List.mem_of_getElem? (i := 2) rfl), ⟨by decide +kernel, by decide +kernel⟩, by decide +kernel⟩
set_option maxRecDepth 20000 in
theorem im_X2_electBand : Cond.instanceMethod yX2_electBand ∈ lw_tbl := t2 (List.mem_of_getElem? (i := 71) rfl)
set_option maxRecDepth 20000 in
theorem se_X2_electBand : Cond.selects yX2_electBand.cls yX2_electBand yX2_electBand ∈ lw_tbl := t2 (List.mem_of_getElem? (i := 72) rfl)
theorem pn_X2_electBand : plainName mX2_electBand.1.cls = true := by decide +kernel
def mX2_electTo : gw_M := (yX2_electTo, cX2_electTo, 5, none, 1, 21)
set_option maxRecDepth 20000 in
theorem cb_X2_electTo : CLb mX2_electTo 1 := ⟨t2 (List.mem_of_getElem? (i := 77) rfl), t1 (List.mem_of_getElem? (i := 2) rfl), ⟨by decide +kernel, by decide +kernel⟩, by decide +kernel⟩
set_option maxRecDepth 20000 in
theorem im_X2_electTo : Cond.instanceMethod yX2_electTo ∈ lw_tbl := t2 (List.mem_of_getElem? (i := 76) rfl)
set_option maxRecDepth 20000 in
theorem se_X2_electTo : Cond.selects yX2_electTo.cls yX2_electTo yX2_electTo ∈ lw_tbl := List.mem_append_left _ (List.mem_of_getElem? (i := 3) rfl)
theorem pn_X2_electTo : plainName mX2_electTo.1.cls = true := by decide +kernel
def mX2_ringersIn : gw_M := (yX2_ringersIn, cX2_ringersIn, 4, (some .int), 2, 42)
set_option maxRecDepth 20000 in
theorem cb_X2_ringersIn : CLb mX2_ringersIn 1 := ⟨t1 (List.mem_of_getElem? (i := 159) rfl), t1 (List.mem_of_getElem? (i := 2) rfl), ⟨by decide +kernel, by decide +kernel⟩, by decide +kernel⟩
set_option maxRecDepth 20000 in
theorem im_X2_ringersIn : Cond.instanceMethod yX2_ringersIn ∈ lw_tbl := t1 (List.mem_of_getElem? (i := 157) rfl)
set_option maxRecDepth 20000 in
theorem se_X2_ringersIn : Cond.selects yX2_ringersIn.cls yX2_ringersIn yX2_ringersIn ∈ lw_tbl := t1 (List.mem_of_getElem? (i := 158) rfl)
theorem pn_X2_ringersIn : plainName mX2_ringersIn.1.cls = true := by decide +kernel
def mX2_ringersAtBells : gw_M := (yX2_ringersAtBells, cX2_ringersAtBells, 3, (some .int), 3, 65)
set_option maxRecDepth 20000 in
theorem cb_X2_ringersAtBells : CLb mX2_ringersAtBells 0 := ⟨t1 (List.mem_of_getElem? (i := 155) rfl), t1 (List.mem_of_getElem? (i := 2) rfl), ⟨by decide +kernel, by decide +kernel⟩, by decide +kernel⟩
set_option maxRecDepth 20000 in
theorem im_X2_ringersAtBells : Cond.instanceMethod yX2_ringersAtBells ∈ lw_tbl := t1 (List.mem_of_getElem? (i := 153) rfl)
set_option maxRecDepth 20000 in
theorem se_X2_ringersAtBells : Cond.selects yX2_ringersAtBells.cls yX2_ringersAtBells yX2_ringersAtBells ∈ lw_tbl := t1 (List.mem_of_getElem? (i := 154) rfl)
theorem pn_X2_ringersAtBells : plainName mX2_ringersAtBells.1.cls = true := by decide +kernel
def mX2_fullBands : gw_M := (yX2_fullBands, cX2_fullBands, 3, (some .int), 3, 65)
set_option maxRecDepth 20000 in
theorem cb_X2_fullBands : CLb mX2_fullBands 0 := ⟨t2 (List.mem_of_getElem? (i := 16) rfl), t1 (List.mem_of_getElem? (i := 2) rfl), ⟨by decide +kernel, by decide +kernel⟩, by decide +kernel⟩
set_option maxRecDepth 20000 in
theorem im_X2_fullBands : Cond.instanceMethod yX2_fullBands ∈ lw_tbl := t2 (List.mem_of_getElem? (i := 14) rfl)
set_option maxRecDepth 20000 in
theorem se_X2_fullBands : Cond.selects yX2_fullBands.cls yX2_fullBands yX2_fullBands ∈ lw_tbl := t2 (List.mem_of_getElem? (i := 15) rfl)
theorem pn_X2_fullBands : plainName mX2_fullBands.1.cls = true := by decide +kernel
def mX2_skillAtBells : gw_M := (yX2_skillAtBells, cX2_skillAtBells, 3, (some .int), 1, 21)
set_option maxRecDepth 20000 in
theorem cb_X2_skillAtBells : CLb mX2_skillAtBells 0 := ⟨t1 (List.mem_of_getElem? (i := 171) rfl), t1 (List.mem_of_getElem? (i := 2) rfl), ⟨by decide +kernel, by decide +kernel⟩, by decide +kernel⟩
set_option maxRecDepth 20000 in
theorem im_X2_skillAtBells : Cond.instanceMethod yX2_skillAtBells ∈ lw_tbl := t1 (List.mem_of_getElem? (i := 169) rfl)
set_option maxRecDepth 20000 in
theorem se_X2_skillAtBells : Cond.selects yX2_skillAtBells.cls yX2_skillAtBells yX2_skillAtBells ∈ lw_tbl := t1 (List.mem_of_getElem? (i := 170) rfl)
theorem pn_X2_skillAtBells : plainName mX2_skillAtBells.1.cls = true := by decide +kernel
def mX2_allFaults : gw_M := (yX2_allFaults, cX2_allFaults, 3, (some .int), 0, 0)
set_option maxRecDepth 20000 in
theorem cb_X2_allFaults : CLb mX2_allFaults 0 := ⟨t2 (List.mem_of_getElem? (i := 20) rfl), t1 (List.mem_of_getElem? (i := 2) rfl), ⟨by decide +kernel, by decide +kernel⟩, by decide +kernel⟩
set_option maxRecDepth 20000 in
theorem im_X2_allFaults : Cond.instanceMethod yX2_allFaults ∈ lw_tbl := t2 (List.mem_of_getElem? (i := 18) rfl)
set_option maxRecDepth 20000 in
theorem se_X2_allFaults : Cond.selects yX2_allFaults.cls yX2_allFaults yX2_allFaults ∈ lw_tbl := t2 (List.mem_of_getElem? (i := 19) rfl)
theorem pn_X2_allFaults : plainName mX2_allFaults.1.cls = true := by decide +kernel
def mX2_allVotes : gw_M := (yX2_allVotes, cX2_allVotes, 3, (some .int), 0, 0)
set_option maxRecDepth 20000 in
theorem cb_X2_allVotes : CLb mX2_allVotes 0 := ⟨t2 (List.mem_of_getElem? (i := 24) rfl), t1 (List.mem_of_getElem? (i := 2) rfl), ⟨by decide +kernel, by decide +kernel⟩, by decide +kernel⟩
set_option maxRecDepth 20000 in
theorem im_X2_allVotes : Cond.instanceMethod yX2_allVotes ∈ lw_tbl := t2 (List.mem_of_getElem? (i := 22) rfl)
set_option maxRecDepth 20000 in
theorem se_X2_allVotes : Cond.selects yX2_allVotes.cls yX2_allVotes yX2_allVotes ∈ lw_tbl := t2 (List.mem_of_getElem? (i := 23) rfl)
theorem pn_X2_allVotes : plainName mX2_allVotes.1.cls = true := by decide +kernel
def mX2_isFresh : gw_M := (yX2_isFresh, cX2_isFresh, 4, (some .boolean), 2, 42)
set_option maxRecDepth 20000 in
theorem cb_X2_isFresh : CLb mX2_isFresh 1 := ⟨t3 (List.mem_of_getElem? (i := 87) rfl), t1 (List.mem_of_getElem? (i := 2) rfl), ⟨by decide +kernel, by decide +kernel⟩, by decide +kernel⟩
set_option maxRecDepth 20000 in
theorem im_X2_isFresh : Cond.instanceMethod yX2_isFresh ∈ lw_tbl := t3 (List.mem_of_getElem? (i := 85) rfl)
set_option maxRecDepth 20000 in
theorem se_X2_isFresh : Cond.selects yX2_isFresh.cls yX2_isFresh yX2_isFresh ∈ lw_tbl := t3 (List.mem_of_getElem? (i := 86) rfl)
theorem pn_X2_isFresh : plainName mX2_isFresh.1.cls = true := by decide +kernel
def mX2_ringTouch : gw_M := (yX2_ringTouch, cX2_ringTouch, 9, (some .int), 3, 65)
set_option maxRecDepth 20000 in
theorem cb_X2_ringTouch : CLb mX2_ringTouch 4 := ⟨t3 (List.mem_of_getElem? (i := 92) rfl), t1 (List.mem_of_getElem? (i := 2) rfl), ⟨by decide +kernel, by decide +kernel⟩, by decide +kernel⟩
set_option maxRecDepth 20000 in
theorem im_X2_ringTouch : Cond.instanceMethod yX2_ringTouch ∈ lw_tbl := t3 (List.mem_of_getElem? (i := 90) rfl)
set_option maxRecDepth 20000 in
theorem se_X2_ringTouch : Cond.selects yX2_ringTouch.cls yX2_ringTouch yX2_ringTouch ∈ lw_tbl := t3 (List.mem_of_getElem? (i := 91) rfl)
theorem pn_X2_ringTouch : plainName mX2_ringTouch.1.cls = true := by decide +kernel
def mX2_tireDodgers : gw_M := (yX2_tireDodgers, cX2_tireDodgers, 4, none, 2, 42)
set_option maxRecDepth 20000 in
theorem cb_X2_tireDodgers : CLb mX2_tireDodgers 2 := ⟨t3 (List.mem_of_getElem? (i := 100) rfl), t1 (List.mem_of_getElem? (i := 2) rfl), ⟨by decide +kernel, by decide +kernel⟩, by decide +kernel⟩
set_option maxRecDepth 20000 in
theorem im_X2_tireDodgers : Cond.instanceMethod yX2_tireDodgers ∈ lw_tbl := t3 (List.mem_of_getElem? (i := 99) rfl)
set_option maxRecDepth 20000 in
theorem se_X2_tireDodgers : Cond.selects yX2_tireDodgers.cls yX2_tireDodgers yX2_tireDodgers ∈ lw_tbl := List.mem_append_left _ (List.mem_of_getElem? (i := 11) rfl)
theorem pn_X2_tireDodgers : plainName mX2_tireDodgers.1.cls = true := by decide +kernel
def mX2_tire : gw_M := (yX2_tire, cX2_tire, 2, none, 1, 21)
set_option maxRecDepth 20000 in
theorem cb_X2_tire : CLb mX2_tire 1 := ⟨t3 (List.mem_of_getElem? (i := 105) rfl), t1 (List.mem_of_getElem? (i := 2) rfl), ⟨by decide +kernel, by decide +kernel⟩, by decide +kernel⟩
set_option maxRecDepth 20000 in
theorem im_X2_tire : Cond.instanceMethod yX2_tire ∈ lw_tbl := t3 (List.mem_of_getElem? (i := 104) rfl)
set_option maxRecDepth 20000 in
theorem se_X2_tire : Cond.selects yX2_tire.cls yX2_tire yX2_tire ∈ lw_tbl := List.mem_append_left _ (List.mem_of_getElem? (i := 12) rfl)
theorem pn_X2_tire : plainName mX2_tire.1.cls = true := by decide +kernel
def mX2_passDays : gw_M := (yX2_passDays, cX2_passDays, 3, none, 4, 90)
set_option maxRecDepth 20000 in
theorem cb_X2_passDays : CLb mX2_passDays 1 := ⟨t3 (List.mem_of_getElem? (i := 141) rfl), t1 (List.mem_of_getElem? (i := 2) rfl), ⟨by decide +kernel, by decide +kernel⟩, by decide +kernel⟩
set_option maxRecDepth 20000 in
theorem im_X2_passDays : Cond.instanceMethod yX2_passDays ∈ lw_tbl := t3 (List.mem_of_getElem? (i := 139) rfl)
set_option maxRecDepth 20000 in
theorem se_X2_passDays : Cond.selects yX2_passDays.cls yX2_passDays yX2_passDays ∈ lw_tbl := t3 (List.mem_of_getElem? (i := 140) rfl)
theorem pn_X2_passDays : plainName mX2_passDays.1.cls = true := by decide +kernel
def mX2_passDay : gw_M := (yX2_passDay, cX2_passDay, 3, none, 3, 68)
set_option maxRecDepth 20000 in
theorem cb_X2_passDay : CLb mX2_passDay 0 := ⟨t3 (List.mem_of_getElem? (i := 145) rfl), t1 (List.mem_of_getElem? (i := 2) rfl), ⟨by decide +kernel, by decide +kernel⟩, by decide +kernel⟩
set_option maxRecDepth 20000 in
theorem im_X2_passDay : Cond.instanceMethod yX2_passDay ∈ lw_tbl := t3 (List.mem_of_getElem? (i := 144) rfl)
set_option maxRecDepth 20000 in
theorem se_X2_passDay : Cond.selects yX2_passDay.cls yX2_passDay yX2_passDay ∈ lw_tbl := List.mem_append_left _ (List.mem_of_getElem? (i := 14) rfl)
theorem pn_X2_passDay : plainName mX2_passDay.1.cls = true := by decide +kernel
def mX2_seatedUnlike : gw_M := (yX2_seatedUnlike, cX2_seatedUnlike, 4, (some .int), 0, 0)
set_option maxRecDepth 20000 in
theorem cb_X2_seatedUnlike : CLb mX2_seatedUnlike 1 := ⟨t3 (List.mem_of_getElem? (i := 150) rfl), t1 (List.mem_of_getElem? (i := 2) rfl), ⟨by decide +kernel, by decide +kernel⟩, by decide +kernel⟩
set_option maxRecDepth 20000 in
theorem im_X2_seatedUnlike : Cond.instanceMethod yX2_seatedUnlike ∈ lw_tbl := t3 (List.mem_of_getElem? (i := 148) rfl)
set_option maxRecDepth 20000 in
theorem se_X2_seatedUnlike : Cond.selects yX2_seatedUnlike.cls yX2_seatedUnlike yX2_seatedUnlike ∈ lw_tbl := t3 (List.mem_of_getElem? (i := 149) rfl)
theorem pn_X2_seatedUnlike : plainName mX2_seatedUnlike.1.cls = true := by decide +kernel
def mX4_init : gw_M := (yX4_init, cX4_init, 2, none, 1, 20)
set_option maxRecDepth 20000 in
theorem cb_X4_init : CLb mX4_init 1 := ⟨t3 (List.mem_of_getElem? (i := 168) rfl), t1 (List.mem_of_getElem? (i := 6) rfl), ⟨by decide +kernel, by decide +kernel⟩, by decide +kernel⟩
set_option maxRecDepth 20000 in
theorem im_X4_init : Cond.instanceMethod yX4_init ∈ lw_tbl := t3 (List.mem_of_getElem? (i := 167) rfl)
theorem pn_X4_init : plainName mX4_init.1.cls = true := by decide +kernel
def mX4_copy : gw_M := (yX4_copy, cX4_copy, 3, none, 1, 60)
set_option maxRecDepth 20000 in
theorem cb_X4_copy : CLb mX4_copy 2 := ⟨t4 (List.mem_of_getElem? (i := 96) rfl), t1 (List.mem_of_getElem? (i := 6) rfl), ⟨by decide +kernel, by decide +kernel⟩, by decide +kernel⟩
set_option maxRecDepth 20000 in
theorem im_X4_copy : Cond.instanceMethod yX4_copy ∈ lw_tbl := t4 (List.mem_of_getElem? (i := 95) rfl)
set_option maxRecDepth 20000 in
theorem se_X4_copy : Cond.selects yX4_copy.cls yX4_copy yX4_copy ∈ lw_tbl := List.mem_append_left _ (List.mem_of_getElem? (i := 19) rfl)
theorem pn_X4_copy : plainName mX4_copy.1.cls = true := by decide +kernel
def mX4_become : gw_M := (yX4_become, cX4_become, 2, (some (.object "BellRosterModel$State")), 2, 82)
set_option maxRecDepth 20000 in
theorem cb_X4_become : CLb mX4_become 1 := ⟨t4 (List.mem_of_getElem? (i := 92) rfl), t1 (List.mem_of_getElem? (i := 6) rfl), ⟨by decide +kernel, by decide +kernel⟩, by decide +kernel⟩
set_option maxRecDepth 20000 in
theorem im_X4_become : Cond.instanceMethod yX4_become ∈ lw_tbl := t4 (List.mem_of_getElem? (i := 90) rfl)
set_option maxRecDepth 20000 in
theorem se_X4_become : Cond.selects yX4_become.cls yX4_become yX4_become ∈ lw_tbl := t4 (List.mem_of_getElem? (i := 91) rfl)
theorem pn_X4_become : plainName mX4_become.1.cls = true := by decide +kernel
def mX4_ringerOf : gw_M := (yX4_ringerOf, cX4_ringerOf, 3, (some .int), 0, 0)
set_option maxRecDepth 20000 in
theorem cb_X4_ringerOf : CLb mX4_ringerOf 1 := ⟨t4 (List.mem_of_getElem? (i := 68) rfl), t1 (List.mem_of_getElem? (i := 6) rfl), ⟨by decide +kernel, by decide +kernel⟩, by decide +kernel⟩
set_option maxRecDepth 20000 in
theorem im_X4_ringerOf : Cond.instanceMethod yX4_ringerOf ∈ lw_tbl := t4 (List.mem_of_getElem? (i := 66) rfl)
set_option maxRecDepth 20000 in
theorem se_X4_ringerOf : Cond.selects yX4_ringerOf.cls yX4_ringerOf yX4_ringerOf ∈ lw_tbl := t4 (List.mem_of_getElem? (i := 67) rfl)
theorem pn_X4_ringerOf : plainName mX4_ringerOf.1.cls = true := by decide +kernel
def mX4_elect : gw_M := (yX4_elect, cX4_elect, 5, (some (.object "BellRosterModel$State")), 0, 0)
set_option maxRecDepth 20000 in
theorem cb_X4_elect : CLb mX4_elect 1 := ⟨t4 (List.mem_of_getElem? (i := 56) rfl), t1 (List.mem_of_getElem? (i := 6) rfl), ⟨by decide +kernel, by decide +kernel⟩, by decide +kernel⟩
set_option maxRecDepth 20000 in
theorem im_X4_elect : Cond.instanceMethod yX4_elect ∈ lw_tbl := t4 (List.mem_of_getElem? (i := 54) rfl)
set_option maxRecDepth 20000 in
theorem se_X4_elect : Cond.selects yX4_elect.cls yX4_elect yX4_elect ∈ lw_tbl := t4 (List.mem_of_getElem? (i := 55) rfl)
theorem pn_X4_elect : plainName mX4_elect.1.cls = true := by decide +kernel
def mX4_manned : gw_M := (yX4_manned, cX4_manned, 4, (some .int), 0, 0)
set_option maxRecDepth 20000 in
theorem cb_X4_manned : CLb mX4_manned 1 := ⟨t4 (List.mem_of_getElem? (i := 60) rfl), t1 (List.mem_of_getElem? (i := 6) rfl), ⟨by decide +kernel, by decide +kernel⟩, by decide +kernel⟩
set_option maxRecDepth 20000 in
theorem im_X4_manned : Cond.instanceMethod yX4_manned ∈ lw_tbl := t4 (List.mem_of_getElem? (i := 58) rfl)
set_option maxRecDepth 20000 in
theorem se_X4_manned : Cond.selects yX4_manned.cls yX4_manned yX4_manned ∈ lw_tbl := t4 (List.mem_of_getElem? (i := 59) rfl)
theorem pn_X4_manned : plainName mX4_manned.1.cls = true := by decide +kernel
def mX4_canRing : gw_M := (yX4_canRing, cX4_canRing, 4, (some .boolean), 1, 23)
set_option maxRecDepth 20000 in
theorem cb_X4_canRing : CLb mX4_canRing 2 := ⟨t4 (List.mem_of_getElem? (i := 161) rfl), t1 (List.mem_of_getElem? (i := 6) rfl), ⟨by decide +kernel, by decide +kernel⟩, by decide +kernel⟩
set_option maxRecDepth 20000 in
theorem im_X4_canRing : Cond.instanceMethod yX4_canRing ∈ lw_tbl := t4 (List.mem_of_getElem? (i := 159) rfl)
set_option maxRecDepth 20000 in
theorem se_X4_canRing : Cond.selects yX4_canRing.cls yX4_canRing yX4_canRing ∈ lw_tbl := t4 (List.mem_of_getElem? (i := 160) rfl)
theorem pn_X4_canRing : plainName mX4_canRing.1.cls = true := by decide +kernel
def mX4_ring : gw_M := (yX4_ring, cX4_ring, 9, (some .int), 3, 74)
set_option maxRecDepth 20000 in
theorem cb_X4_ring : CLb mX4_ring 3 := ⟨t4 (List.mem_of_getElem? (i := 166) rfl), t1 (List.mem_of_getElem? (i := 6) rfl), ⟨by decide +kernel, by decide +kernel⟩, by decide +kernel⟩
set_option maxRecDepth 20000 in
theorem im_X4_ring : Cond.instanceMethod yX4_ring ∈ lw_tbl := t4 (List.mem_of_getElem? (i := 164) rfl)
set_option maxRecDepth 20000 in
theorem se_X4_ring : Cond.selects yX4_ring.cls yX4_ring yX4_ring ∈ lw_tbl := t4 (List.mem_of_getElem? (i := 165) rfl)
theorem pn_X4_ring : plainName mX4_ring.1.cls = true := by decide +kernel
def mX4_pass : gw_M := (yX4_pass, cX4_pass, 2, none, 1, 24)
set_option maxRecDepth 20000 in
theorem cb_X4_pass : CLb mX4_pass 0 := ⟨t4 (List.mem_of_getElem? (i := 213) rfl), t1 (List.mem_of_getElem? (i := 6) rfl), ⟨by decide +kernel, by decide +kernel⟩, by decide +kernel⟩
set_option maxRecDepth 20000 in
theorem im_X4_pass : Cond.instanceMethod yX4_pass ∈ lw_tbl := t4 (List.mem_of_getElem? (i := 211) rfl)
set_option maxRecDepth 20000 in
theorem se_X4_pass : Cond.selects yX4_pass.cls yX4_pass yX4_pass ∈ lw_tbl := t4 (List.mem_of_getElem? (i := 212) rfl)
theorem pn_X4_pass : plainName mX4_pass.1.cls = true := by decide +kernel
def mX4_pass_ : gw_M := (yX4_pass_, cX4_pass_, 3, none, 2, 45)
set_option maxRecDepth 20000 in
theorem cb_X4_pass_ : CLb mX4_pass_ 1 := ⟨t4 (List.mem_of_getElem? (i := 209) rfl), t1 (List.mem_of_getElem? (i := 6) rfl), ⟨by decide +kernel, by decide +kernel⟩, by decide +kernel⟩
set_option maxRecDepth 20000 in
theorem im_X4_pass_ : Cond.instanceMethod yX4_pass_ ∈ lw_tbl := t4 (List.mem_of_getElem? (i := 207) rfl)
set_option maxRecDepth 20000 in
theorem se_X4_pass_ : Cond.selects yX4_pass_.cls yX4_pass_ yX4_pass_ ∈ lw_tbl := t4 (List.mem_of_getElem? (i := 208) rfl)
theorem pn_X4_pass_ : plainName mX4_pass_.1.cls = true := by decide +kernel
def mX4_allVotes : gw_M := (yX4_allVotes, cX4_allVotes, 3, (some .int), 0, 0)
set_option maxRecDepth 20000 in
theorem cb_X4_allVotes : CLb mX4_allVotes 0 := ⟨t4 (List.mem_of_getElem? (i := 182) rfl), t1 (List.mem_of_getElem? (i := 6) rfl), ⟨by decide +kernel, by decide +kernel⟩, by decide +kernel⟩
set_option maxRecDepth 20000 in
theorem im_X4_allVotes : Cond.instanceMethod yX4_allVotes ∈ lw_tbl := t4 (List.mem_of_getElem? (i := 180) rfl)
set_option maxRecDepth 20000 in
theorem se_X4_allVotes : Cond.selects yX4_allVotes.cls yX4_allVotes yX4_allVotes ∈ lw_tbl := t4 (List.mem_of_getElem? (i := 181) rfl)
theorem pn_X4_allVotes : plainName mX4_allVotes.1.cls = true := by decide +kernel
def mJ9_max_7cf53 : gw_M := (yJ9_max_7cf53, cJ9_max_7cf53, 2, (some .int), 0, 0)
set_option maxRecDepth 20000 in
theorem cb_J9_max_7cf53 : CLb mJ9_max_7cf53 2 := ⟨t2 (List.mem_of_getElem? (i := 171) rfl), t1 (List.mem_of_getElem? (i := 13) rfl), ⟨by decide +kernel, by decide +kernel⟩, by decide +kernel⟩
set_option maxRecDepth 20000 in
theorem st_J9_max_7cf53 : Cond.static yJ9_max_7cf53 ∈ lw_tbl := t2 (List.mem_of_getElem? (i := 170) rfl)
def mJ9_min_7cf53 : gw_M := (yJ9_min_7cf53, cJ9_min_7cf53, 2, (some .int), 0, 0)
set_option maxRecDepth 20000 in
theorem cb_J9_min_7cf53 : CLb mJ9_min_7cf53 2 := ⟨t2 (List.mem_of_getElem? (i := 168) rfl), t1 (List.mem_of_getElem? (i := 13) rfl), ⟨by decide +kernel, by decide +kernel⟩, by decide +kernel⟩
set_option maxRecDepth 20000 in
theorem st_J9_min_7cf53 : Cond.static yJ9_min_7cf53 ∈ lw_tbl := t2 (List.mem_of_getElem? (i := 167) rfl)
def mJ7_fill_53178 : gw_M := (yJ7_fill_53178, cJ7_fill_53178, 4, none, 0, 0)
set_option maxRecDepth 20000 in
theorem cb_J7_fill_53178 : CLb mJ7_fill_53178 2 := ⟨t3 (List.mem_of_getElem? (i := 2) rfl), t1 (List.mem_of_getElem? (i := 15) rfl), ⟨by decide +kernel, by decide +kernel⟩, by decide +kernel⟩
set_option maxRecDepth 20000 in
theorem st_J7_fill_53178 : Cond.static yJ7_fill_53178 ∈ lw_tbl := t3 (List.mem_of_getElem? (i := 1) rfl)
theorem pn_J7_fill_53178 : plainName mJ7_fill_53178.1.cls = true := by decide +kernel
def mJ7_fill_d0a16 : gw_M := (yJ7_fill_d0a16, cJ7_fill_d0a16, 5, none, 0, 0)
set_option maxRecDepth 20000 in
theorem cb_J7_fill_d0a16 : CLb mJ7_fill_d0a16 2 := ⟨t3 (List.mem_of_getElem? (i := 9) rfl), t1 (List.mem_of_getElem? (i := 15) rfl), ⟨by decide +kernel, by decide +kernel⟩, by decide +kernel⟩
set_option maxRecDepth 20000 in
theorem st_J7_fill_d0a16 : Cond.static yJ7_fill_d0a16 ∈ lw_tbl := t3 (List.mem_of_getElem? (i := 8) rfl)
theorem pn_J7_fill_d0a16 : plainName mJ7_fill_d0a16.1.cls = true := by decide +kernel
set_option maxRecDepth 20000 in
theorem ts_45_47_49 : TS RX3 45 47 49 "java/lang/IllegalStateException" "there are 20 ringers" := ⟨rfl, by decide +kernel, by decide +kernel, t2 (List.mem_of_getElem? (i := 135) rfl), t1 (List.mem_of_getElem? (i := 12) rfl), by decide +kernel, by decide +kernel⟩
set_option maxRecDepth 20000 in
theorem ts_45_84_49 : TS RX3 45 84 49 "java/lang/IllegalStateException" "the bell has a ringer" := ⟨rfl, by decide +kernel, by decide +kernel, t2 (List.mem_of_getElem? (i := 135) rfl), t1 (List.mem_of_getElem? (i := 12) rfl), by decide +kernel, by decide +kernel⟩
set_option maxRecDepth 20000 in
theorem ts_45_90_49 : TS RX3 45 90 49 "java/lang/IllegalStateException" "the ringer rings a bell" := ⟨rfl, by decide +kernel, by decide +kernel, t2 (List.mem_of_getElem? (i := 135) rfl), t1 (List.mem_of_getElem? (i := 12) rfl), by decide +kernel, by decide +kernel⟩
set_option maxRecDepth 20000 in
theorem ts_45_95_49 : TS RX3 45 95 49 "java/lang/IllegalStateException" "the ringer rings no bell" := ⟨rfl, by decide +kernel, by decide +kernel, t2 (List.mem_of_getElem? (i := 135) rfl), t1 (List.mem_of_getElem? (i := 12) rfl), by decide +kernel, by decide +kernel⟩
set_option maxRecDepth 20000 in
theorem ts_45_113_49 : TS RX3 45 113 49 "java/lang/IllegalStateException" "there are 5 methods" := ⟨rfl, by decide +kernel, by decide +kernel, t2 (List.mem_of_getElem? (i := 135) rfl), t1 (List.mem_of_getElem? (i := 12) rfl), by decide +kernel, by decide +kernel⟩
set_option maxRecDepth 20000 in
theorem ts_119_121_123 : TS RX3 119 121 123 "java/lang/IllegalArgumentException" "a place is in two pairs" := ⟨rfl, by decide +kernel, by decide +kernel, t2 (List.mem_of_getElem? (i := 119) rfl), t1 (List.mem_of_getElem? (i := 11) rfl), by decide +kernel, by decide +kernel⟩
set_option maxRecDepth 20000 in
theorem ts_45_127_49 : TS RX3 45 127 49 "java/lang/IllegalStateException" "the method has 12 changes" := ⟨rfl, by decide +kernel, by decide +kernel, t2 (List.mem_of_getElem? (i := 135) rfl), t1 (List.mem_of_getElem? (i := 12) rfl), by decide +kernel, by decide +kernel⟩
set_option maxRecDepth 20000 in
theorem ts_45_139_49 : TS RX3 45 139 49 "java/lang/IllegalStateException" "the method is empty" := ⟨rfl, by decide +kernel, by decide +kernel, t2 (List.mem_of_getElem? (i := 135) rfl), t1 (List.mem_of_getElem? (i := 12) rfl), by decide +kernel, by decide +kernel⟩
set_option maxRecDepth 20000 in
theorem ts_45_161_49 : TS RX3 45 161 49 "java/lang/IllegalStateException" "the band cannot ring this method" := ⟨rfl, by decide +kernel, by decide +kernel, t2 (List.mem_of_getElem? (i := 135) rfl), t1 (List.mem_of_getElem? (i := 12) rfl), by decide +kernel, by decide +kernel⟩
set_option maxRecDepth 20000 in
theorem ts_237_239_241 : TS RX3 237 239 241 "java/lang/IndexOutOfBoundsException" "there is no such number" := ⟨rfl, by decide +kernel, by decide +kernel, t1 (List.mem_of_getElem? (i := 185) rfl), t1 (List.mem_of_getElem? (i := 10) rfl), by decide +kernel, by decide +kernel⟩
set_option maxRecDepth 20000 in
theorem ts_119_242_123 : TS RX3 119 242 123 "java/lang/IllegalArgumentException" "outside of what is allowed" := ⟨rfl, by decide +kernel, by decide +kernel, t2 (List.mem_of_getElem? (i := 119) rfl), t1 (List.mem_of_getElem? (i := 11) rfl), by decide +kernel, by decide +kernel⟩
