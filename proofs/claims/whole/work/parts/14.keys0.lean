theorem clsn_0 : clsNP "DreamDuty$Border" := ⟨⟨by decide +kernel, by decide +kernel⟩, by decide +kernel⟩
theorem clsn_1 : clsNP "DreamDuty$Grammar" := ⟨⟨by decide +kernel, by decide +kernel⟩, by decide +kernel⟩
theorem clsn_2 : clsNP "DreamDuty$History" := ⟨⟨by decide +kernel, by decide +kernel⟩, by decide +kernel⟩
theorem clsn_3 : clsNP "DreamDuty$Law" := ⟨⟨by decide +kernel, by decide +kernel⟩, by decide +kernel⟩
theorem clsn_4 : clsNP "DreamDuty$Lodgings" := ⟨⟨by decide +kernel, by decide +kernel⟩, by decide +kernel⟩
theorem clsn_5 : clsNP "DreamDuty$Pairings" := ⟨⟨by decide +kernel, by decide +kernel⟩, by decide +kernel⟩
theorem clsn_6 : clsNP "DreamDuty$Rests" := ⟨⟨by decide +kernel, by decide +kernel⟩, by decide +kernel⟩
theorem clsn_7 : clsNP "DreamDuty$State" := ⟨⟨by decide +kernel, by decide +kernel⟩, by decide +kernel⟩
theorem clsn_8 : clsNP "DreamDuty$Teller" := ⟨⟨by decide +kernel, by decide +kernel⟩, by decide +kernel⟩
theorem clsn_9 : clsNP "DreamDuty$Text" := ⟨⟨by decide +kernel, by decide +kernel⟩, by decide +kernel⟩
theorem clsn_10 : clsNP "DreamDuty$Tokens" := ⟨⟨by decide +kernel, by decide +kernel⟩, by decide +kernel⟩
theorem clsn_11 : clsNP "DreamDuty" := ⟨⟨by decide +kernel, by decide +kernel⟩, by decide +kernel⟩
theorem clsn_12 : clsNP "DreamDutyModel" := ⟨⟨by decide +kernel, by decide +kernel⟩, by decide +kernel⟩
theorem clsn_13 : clsNP "java/lang/Integer" := ⟨⟨by decide +kernel, by decide +kernel⟩, by decide +kernel⟩
theorem clsn_14 : clsNP "java/util/Arrays" := ⟨⟨by decide +kernel, by decide +kernel⟩, by decide +kernel⟩
theorem clsn_15 : clsNP "java/lang/String" := ⟨⟨by decide +kernel, by decide +kernel⟩, by decide +kernel⟩
theorem clsn_16 : clsNP "java/lang/StringLatin1" := ⟨⟨by decide +kernel, by decide +kernel⟩, by decide +kernel⟩
theorem clsn_17 : clsNP "jdk/internal/util/Preconditions" := ⟨⟨by decide +kernel, by decide +kernel⟩, by decide +kernel⟩
set_option maxRecDepth 20000 in
theorem ini_0 : Cond.initialized "DreamDuty$Border" ∈ gw := (gwc_1 (i := 12) rfl rfl)
set_option maxRecDepth 20000 in
theorem ini_1 : Cond.initialized "DreamDuty$Grammar" ∈ gw := (gwc_1 (i := 7) rfl rfl)
set_option maxRecDepth 20000 in
theorem ini_2 : Cond.initialized "DreamDuty$History" ∈ gw := (gwc_1 (i := 14) rfl rfl)
set_option maxRecDepth 20000 in
theorem ini_3 : Cond.initialized "DreamDuty$Law" ∈ gw := (gwc_1 (i := 10) rfl rfl)
set_option maxRecDepth 20000 in
theorem ini_4 : Cond.initialized "DreamDuty$Lodgings" ∈ gw := (gwc_1 (i := 15) rfl rfl)
set_option maxRecDepth 20000 in
theorem ini_5 : Cond.initialized "DreamDuty$Pairings" ∈ gw := (gwc_1 (i := 16) rfl rfl)
set_option maxRecDepth 20000 in
theorem ini_6 : Cond.initialized "DreamDuty$Rests" ∈ gw := (gwc_1 (i := 17) rfl rfl)
set_option maxRecDepth 20000 in
theorem ini_7 : Cond.initialized "DreamDuty$State" ∈ gw := (gwc_1 (i := 13) rfl rfl)
set_option maxRecDepth 20000 in
theorem ini_8 : Cond.initialized "DreamDuty$Teller" ∈ gw := (gwc_1 (i := 8) rfl rfl)
set_option maxRecDepth 20000 in
theorem ini_9 : Cond.initialized "DreamDuty$Text" ∈ gw := (gwc_1 (i := 9) rfl rfl)
set_option maxRecDepth 20000 in
theorem ini_10 : Cond.initialized "DreamDuty$Tokens" ∈ gw := (gwc_1 (i := 2) rfl rfl)
set_option maxRecDepth 20000 in
theorem ini_11 : Cond.initialized "DreamDuty" ∈ gw := (gwc_1 (i := 1) rfl rfl)
set_option maxRecDepth 20000 in
theorem ini_12 : Cond.initialized "DreamDutyModel" ∈ gw := (gwc_1 (i := 18) rfl rfl)
set_option maxRecDepth 20000 in
theorem ini_13 : Cond.initialized "java/lang/Integer" ∈ gw := (gwc_1 (i := 21) rfl rfl)
set_option maxRecDepth 20000 in
theorem ini_14 : Cond.initialized "java/util/Arrays" ∈ gw := (gwc_1 (i := 11) rfl rfl)
set_option maxRecDepth 20000 in
theorem ini_15 : Cond.initialized "java/lang/String" ∈ gw := (gwc_1 (i := 3) rfl rfl)
set_option maxRecDepth 20000 in
theorem ini_16 : Cond.initialized "java/lang/StringLatin1" ∈ gw := (gwc_1 (i := 4) rfl rfl)
set_option maxRecDepth 20000 in
theorem ini_17 : Cond.initialized "jdk/internal/util/Preconditions" ∈ gw := (gwc_1 (i := 5) rfl rfl)
set_option maxRecDepth 100000 in
theorem key_0 : keyP 0 := ⟨(gwc_2 (i := 82) rfl rfl), ini_0, clsn_0, fun h => absurd h (by decide), fun h => absurd h (by decide), fun _ => ⟨(gwc_2 (i := 81) rfl rfl), rfl⟩, rfl, Or.inl ⟨by decide, rfl⟩, by decide +kernel⟩
set_option maxRecDepth 100000 in
theorem key_1 : keyP 1 := ⟨(gwc_3 (i := 27) rfl rfl), ini_0, clsn_0, fun _ => ⟨(gwc_3 (i := 25) rfl rfl), (gwc_3 (i := 26) rfl rfl)⟩, fun h => absurd h (by decide), fun h => absurd h (by decide), rfl, Or.inl ⟨by decide, rfl⟩, by decide +kernel⟩
set_option maxRecDepth 100000 in
theorem key_2 : keyP 2 := ⟨(gwc_5 (i := 161) rfl rfl), ini_0, clsn_0, fun _ => ⟨(gwc_5 (i := 159) rfl rfl), (gwc_5 (i := 160) rfl rfl)⟩, fun h => absurd h (by decide), fun h => absurd h (by decide), rfl, Or.inl ⟨by decide, rfl⟩, by decide +kernel⟩
set_option maxRecDepth 100000 in
theorem key_3 : keyP 3 := ⟨(gwc_4 (i := 207) rfl rfl), ini_0, clsn_0, fun _ => ⟨(gwc_4 (i := 205) rfl rfl), (gwc_4 (i := 206) rfl rfl)⟩, fun h => absurd h (by decide), fun h => absurd h (by decide), rfl, Or.inl ⟨by decide, rfl⟩, by decide +kernel⟩
set_option maxRecDepth 100000 in
theorem key_4 : keyP 4 := ⟨(gwc_5 (i := 201) rfl rfl), ini_0, clsn_0, fun _ => ⟨(gwc_5 (i := 199) rfl rfl), (gwc_5 (i := 200) rfl rfl)⟩, fun h => absurd h (by decide), fun h => absurd h (by decide), rfl, Or.inl ⟨by decide, rfl⟩, by decide +kernel⟩
set_option maxRecDepth 100000 in
theorem key_5 : keyP 5 := ⟨(gwc_5 (i := 42) rfl rfl), ini_0, clsn_0, fun _ => ⟨(gwc_5 (i := 40) rfl rfl), (gwc_5 (i := 41) rfl rfl)⟩, fun h => absurd h (by decide), fun h => absurd h (by decide), rfl, Or.inl ⟨by decide, rfl⟩, by decide +kernel⟩
set_option maxRecDepth 100000 in
theorem key_6 : keyP 6 := ⟨(gwc_5 (i := 6) rfl rfl), ini_0, clsn_0, fun _ => ⟨(gwc_5 (i := 4) rfl rfl), (gwc_5 (i := 5) rfl rfl)⟩, fun h => absurd h (by decide), fun h => absurd h (by decide), rfl, Or.inl ⟨by decide, rfl⟩, by decide +kernel⟩
set_option maxRecDepth 100000 in
theorem key_7 : keyP 7 := ⟨(gwc_5 (i := 10) rfl rfl), ini_0, clsn_0, fun _ => ⟨(gwc_5 (i := 9) rfl rfl), (gw_of (i := 37) (by decide +kernel) rfl)⟩, fun h => absurd h (by decide), fun h => absurd h (by decide), rfl, Or.inl ⟨by decide, rfl⟩, by decide +kernel⟩
set_option maxRecDepth 100000 in
theorem key_8 : keyP 8 := ⟨(gwc_5 (i := 14) rfl rfl), ini_0, clsn_0, fun _ => ⟨(gwc_5 (i := 13) rfl rfl), (gw_of (i := 38) (by decide +kernel) rfl)⟩, fun h => absurd h (by decide), fun h => absurd h (by decide), rfl, Or.inl ⟨by decide, rfl⟩, by decide +kernel⟩
set_option maxRecDepth 100000 in
theorem key_9 : keyP 9 := ⟨(gwc_5 (i := 18) rfl rfl), ini_0, clsn_0, fun _ => ⟨(gwc_5 (i := 17) rfl rfl), (gw_of (i := 39) (by decide +kernel) rfl)⟩, fun h => absurd h (by decide), fun h => absurd h (by decide), rfl, Or.inl ⟨by decide, rfl⟩, by decide +kernel⟩
set_option maxRecDepth 100000 in
theorem key_10 : keyP 10 := ⟨(gwc_5 (i := 21) rfl rfl), ini_0, clsn_0, fun h => absurd h (by decide), fun _ => (gwc_5 (i := 20) rfl rfl), fun h => absurd h (by decide), rfl, Or.inr (Or.inr rfl), by decide +kernel⟩
set_option maxRecDepth 100000 in
theorem key_11 : keyP 11 := ⟨(gwc_5 (i := 27) rfl rfl), ini_0, clsn_0, fun _ => ⟨(gwc_5 (i := 26) rfl rfl), (gw_of (i := 40) (by decide +kernel) rfl)⟩, fun h => absurd h (by decide), fun h => absurd h (by decide), rfl, Or.inl ⟨by decide, rfl⟩, by decide +kernel⟩
set_option maxRecDepth 100000 in
theorem key_12 : keyP 12 := ⟨(gwc_5 (i := 31) rfl rfl), ini_0, clsn_0, fun _ => ⟨(gwc_5 (i := 29) rfl rfl), (gwc_5 (i := 30) rfl rfl)⟩, fun h => absurd h (by decide), fun h => absurd h (by decide), rfl, Or.inl ⟨by decide, rfl⟩, by decide +kernel⟩
set_option maxRecDepth 100000 in
theorem key_13 : keyP 13 := ⟨(gwc_4 (i := 165) rfl rfl), ini_0, clsn_0, fun _ => ⟨(gwc_4 (i := 163) rfl rfl), (gwc_4 (i := 164) rfl rfl)⟩, fun h => absurd h (by decide), fun h => absurd h (by decide), rfl, Or.inl ⟨by decide, rfl⟩, by decide +kernel⟩
set_option maxRecDepth 100000 in
theorem key_14 : keyP 14 := ⟨(gwc_5 (i := 55) rfl rfl), ini_0, clsn_0, fun _ => ⟨(gwc_5 (i := 53) rfl rfl), (gwc_5 (i := 54) rfl rfl)⟩, fun h => absurd h (by decide), fun h => absurd h (by decide), rfl, Or.inl ⟨by decide, rfl⟩, by decide +kernel⟩
set_option maxRecDepth 100000 in
theorem key_15 : keyP 15 := ⟨(gwc_4 (i := 169) rfl rfl), ini_0, clsn_0, fun _ => ⟨(gwc_4 (i := 168) rfl rfl), (gw_of (i := 32) (by decide +kernel) rfl)⟩, fun h => absurd h (by decide), fun h => absurd h (by decide), rfl, Or.inl ⟨by decide, rfl⟩, by decide +kernel⟩
set_option maxRecDepth 100000 in
theorem key_16 : keyP 16 := ⟨(gwc_4 (i := 178) rfl rfl), ini_0, clsn_0, fun _ => ⟨(gwc_4 (i := 177) rfl rfl), (gw_of (i := 33) (by decide +kernel) rfl)⟩, fun h => absurd h (by decide), fun h => absurd h (by decide), rfl, Or.inl ⟨by decide, rfl⟩, by decide +kernel⟩
set_option maxRecDepth 100000 in
theorem key_17 : keyP 17 := ⟨(gwc_4 (i := 161) rfl rfl), ini_0, clsn_0, fun _ => ⟨(gwc_4 (i := 159) rfl rfl), (gwc_4 (i := 160) rfl rfl)⟩, fun h => absurd h (by decide), fun h => absurd h (by decide), rfl, Or.inl ⟨by decide, rfl⟩, by decide +kernel⟩
set_option maxRecDepth 100000 in
theorem key_18 : keyP 18 := ⟨(gwc_5 (i := 46) rfl rfl), ini_0, clsn_0, fun _ => ⟨(gwc_5 (i := 44) rfl rfl), (gwc_5 (i := 45) rfl rfl)⟩, fun h => absurd h (by decide), fun h => absurd h (by decide), rfl, Or.inl ⟨by decide, rfl⟩, by decide +kernel⟩
set_option maxRecDepth 100000 in
theorem key_19 : keyP 19 := ⟨(gwc_5 (i := 51) rfl rfl), ini_0, clsn_0, fun _ => ⟨(gwc_5 (i := 50) rfl rfl), (gw_of (i := 41) (by decide +kernel) rfl)⟩, fun h => absurd h (by decide), fun h => absurd h (by decide), rfl, Or.inl ⟨by decide, rfl⟩, by decide +kernel⟩
set_option maxRecDepth 100000 in
theorem key_20 : keyP 20 := ⟨(gwc_5 (i := 99) rfl rfl), ini_0, clsn_0, fun _ => ⟨(gwc_5 (i := 97) rfl rfl), (gwc_5 (i := 98) rfl rfl)⟩, fun h => absurd h (by decide), fun h => absurd h (by decide), rfl, Or.inl ⟨by decide, rfl⟩, by decide +kernel⟩
set_option maxRecDepth 100000 in
theorem key_21 : keyP 21 := ⟨(gwc_1 (i := 114) rfl rfl), ini_1, clsn_1, fun h => absurd h (by decide), fun h => absurd h (by decide), fun _ => ⟨(gwc_1 (i := 113) rfl rfl), rfl⟩, rfl, Or.inl ⟨by decide, rfl⟩, by decide +kernel⟩
set_option maxRecDepth 100000 in
theorem key_22 : keyP 22 := ⟨(gwc_3 (i := 202) rfl rfl), ini_1, clsn_1, fun _ => ⟨(gwc_3 (i := 200) rfl rfl), (gwc_3 (i := 201) rfl rfl)⟩, fun h => absurd h (by decide), fun h => absurd h (by decide), rfl, Or.inl ⟨by decide, rfl⟩, by decide +kernel⟩
set_option maxRecDepth 100000 in
theorem key_23 : keyP 23 := ⟨(gwc_4 (i := 59) rfl rfl), ini_1, clsn_1, fun _ => ⟨(gwc_4 (i := 57) rfl rfl), (gwc_4 (i := 58) rfl rfl)⟩, fun h => absurd h (by decide), fun h => absurd h (by decide), rfl, Or.inl ⟨by decide, rfl⟩, by decide +kernel⟩
set_option maxRecDepth 100000 in
theorem key_24 : keyP 24 := ⟨(gwc_3 (i := 211) rfl rfl), ini_1, clsn_1, fun _ => ⟨(gwc_3 (i := 210) rfl rfl), (gw_of (i := 5) (by decide +kernel) rfl)⟩, fun h => absurd h (by decide), fun h => absurd h (by decide), rfl, Or.inl ⟨by decide, rfl⟩, by decide +kernel⟩
set_option maxRecDepth 100000 in
theorem key_25 : keyP 25 := ⟨(gwc_3 (i := 214) rfl rfl), ini_1, clsn_1, fun h => absurd h (by decide), fun _ => (gwc_3 (i := 213) rfl rfl), fun h => absurd h (by decide), rfl, Or.inr (Or.inr rfl), by decide +kernel⟩
set_option maxRecDepth 100000 in
theorem key_26 : keyP 26 := ⟨(gwc_4 (i := 44) rfl rfl), ini_1, clsn_1, fun h => absurd h (by decide), fun _ => (gwc_4 (i := 43) rfl rfl), fun h => absurd h (by decide), rfl, Or.inr (Or.inr rfl), by decide +kernel⟩
set_option maxRecDepth 100000 in
theorem key_27 : keyP 27 := ⟨(gwc_4 (i := 53) rfl rfl), ini_1, clsn_1, fun _ => ⟨(gwc_4 (i := 52) rfl rfl), (gw_of (i := 16) (by decide +kernel) rfl)⟩, fun h => absurd h (by decide), fun h => absurd h (by decide), rfl, Or.inl ⟨by decide, rfl⟩, by decide +kernel⟩
set_option maxRecDepth 100000 in
theorem key_28 : keyP 28 := ⟨(gwc_3 (i := 222) rfl rfl), ini_1, clsn_1, fun _ => ⟨(gwc_3 (i := 221) rfl rfl), (gw_of (i := 7) (by decide +kernel) rfl)⟩, fun h => absurd h (by decide), fun h => absurd h (by decide), rfl, Or.inl ⟨by decide, rfl⟩, by decide +kernel⟩
set_option maxRecDepth 100000 in
theorem key_29 : keyP 29 := ⟨(gwc_3 (i := 234) rfl rfl), ini_1, clsn_1, fun _ => ⟨(gwc_3 (i := 233) rfl rfl), (gw_of (i := 9) (by decide +kernel) rfl)⟩, fun h => absurd h (by decide), fun h => absurd h (by decide), rfl, Or.inl ⟨by decide, rfl⟩, by decide +kernel⟩
set_option maxRecDepth 100000 in
theorem key_30 : keyP 30 := ⟨(gwc_3 (i := 239) rfl rfl), ini_1, clsn_1, fun _ => ⟨(gwc_3 (i := 238) rfl rfl), (gw_of (i := 10) (by decide +kernel) rfl)⟩, fun h => absurd h (by decide), fun h => absurd h (by decide), rfl, Or.inl ⟨by decide, rfl⟩, by decide +kernel⟩
set_option maxRecDepth 100000 in
theorem key_31 : keyP 31 := ⟨(gwc_4 (i := 3) rfl rfl), ini_1, clsn_1, fun _ => ⟨(gwc_4 (i := 2) rfl rfl), (gw_of (i := 11) (by decide +kernel) rfl)⟩, fun h => absurd h (by decide), fun h => absurd h (by decide), rfl, Or.inl ⟨by decide, rfl⟩, by decide +kernel⟩
set_option maxRecDepth 100000 in
theorem key_32 : keyP 32 := ⟨(gwc_4 (i := 7) rfl rfl), ini_1, clsn_1, fun _ => ⟨(gwc_4 (i := 6) rfl rfl), (gw_of (i := 12) (by decide +kernel) rfl)⟩, fun h => absurd h (by decide), fun h => absurd h (by decide), rfl, Or.inl ⟨by decide, rfl⟩, by decide +kernel⟩
set_option maxRecDepth 100000 in
theorem key_33 : keyP 33 := ⟨(gwc_4 (i := 31) rfl rfl), ini_1, clsn_1, fun _ => ⟨(gwc_4 (i := 30) rfl rfl), (gw_of (i := 15) (by decide +kernel) rfl)⟩, fun h => absurd h (by decide), fun h => absurd h (by decide), rfl, Or.inl ⟨by decide, rfl⟩, by decide +kernel⟩
set_option maxRecDepth 100000 in
theorem key_34 : keyP 34 := ⟨(gwc_4 (i := 11) rfl rfl), ini_1, clsn_1, fun _ => ⟨(gwc_4 (i := 10) rfl rfl), (gw_of (i := 13) (by decide +kernel) rfl)⟩, fun h => absurd h (by decide), fun h => absurd h (by decide), rfl, Or.inl ⟨by decide, rfl⟩, by decide +kernel⟩
set_option maxRecDepth 100000 in
theorem key_35 : keyP 35 := ⟨(gwc_4 (i := 21) rfl rfl), ini_1, clsn_1, fun _ => ⟨(gwc_4 (i := 20) rfl rfl), (gw_of (i := 14) (by decide +kernel) rfl)⟩, fun h => absurd h (by decide), fun h => absurd h (by decide), rfl, Or.inl ⟨by decide, rfl⟩, by decide +kernel⟩
set_option maxRecDepth 100000 in
theorem key_36 : keyP 36 := ⟨(gwc_4 (i := 24) rfl rfl), ini_1, clsn_1, fun h => absurd h (by decide), fun _ => (gwc_4 (i := 23) rfl rfl), fun h => absurd h (by decide), rfl, Or.inr (Or.inr rfl), by decide +kernel⟩
set_option maxRecDepth 100000 in
theorem key_37 : keyP 37 := ⟨(gwc_4 (i := 27) rfl rfl), ini_1, clsn_1, fun h => absurd h (by decide), fun _ => (gwc_4 (i := 26) rfl rfl), fun h => absurd h (by decide), rfl, Or.inr (Or.inr rfl), by decide +kernel⟩
set_option maxRecDepth 100000 in
theorem key_38 : keyP 38 := ⟨(gwc_3 (i := 226) rfl rfl), ini_1, clsn_1, fun _ => ⟨(gwc_3 (i := 225) rfl rfl), (gw_of (i := 8) (by decide +kernel) rfl)⟩, fun h => absurd h (by decide), fun h => absurd h (by decide), rfl, Or.inl ⟨by decide, rfl⟩, by decide +kernel⟩
set_option maxRecDepth 100000 in
theorem key_39 : keyP 39 := ⟨(gwc_3 (i := 218) rfl rfl), ini_1, clsn_1, fun _ => ⟨(gwc_3 (i := 217) rfl rfl), (gw_of (i := 6) (by decide +kernel) rfl)⟩, fun h => absurd h (by decide), fun h => absurd h (by decide), rfl, Or.inl ⟨by decide, rfl⟩, by decide +kernel⟩
set_option maxRecDepth 100000 in
theorem key_40 : keyP 40 := ⟨(gwc_2 (i := 176) rfl rfl), ini_2, clsn_2, fun h => absurd h (by decide), fun h => absurd h (by decide), fun _ => ⟨(gwc_2 (i := 175) rfl rfl), rfl⟩, rfl, Or.inl ⟨by decide, rfl⟩, by decide +kernel⟩
set_option maxRecDepth 100000 in
theorem key_41 : keyP 41 := ⟨(gwc_3 (i := 36) rfl rfl), ini_2, clsn_2, fun _ => ⟨(gwc_3 (i := 34) rfl rfl), (gwc_3 (i := 35) rfl rfl)⟩, fun h => absurd h (by decide), fun h => absurd h (by decide), rfl, Or.inl ⟨by decide, rfl⟩, by decide +kernel⟩
set_option maxRecDepth 100000 in
theorem key_42 : keyP 42 := ⟨(gwc_4 (i := 230) rfl rfl), ini_2, clsn_2, fun _ => ⟨(gwc_4 (i := 228) rfl rfl), (gwc_4 (i := 229) rfl rfl)⟩, fun h => absurd h (by decide), fun h => absurd h (by decide), rfl, Or.inl ⟨by decide, rfl⟩, by decide +kernel⟩
set_option maxRecDepth 100000 in
theorem key_43 : keyP 43 := ⟨(gwc_5 (i := 84) rfl rfl), ini_2, clsn_2, fun _ => ⟨(gwc_5 (i := 82) rfl rfl), (gwc_5 (i := 83) rfl rfl)⟩, fun h => absurd h (by decide), fun h => absurd h (by decide), rfl, Or.inl ⟨by decide, rfl⟩, by decide +kernel⟩
set_option maxRecDepth 100000 in
theorem key_44 : keyP 44 := ⟨(gwc_1 (i := 179) rfl rfl), ini_3, clsn_3, fun h => absurd h (by decide), fun h => absurd h (by decide), fun _ => ⟨(gwc_1 (i := 178) rfl rfl), rfl⟩, rfl, Or.inl ⟨by decide, rfl⟩, by decide +kernel⟩
set_option maxRecDepth 100000 in
theorem key_45 : keyP 45 := ⟨(gwc_1 (i := 201) rfl rfl), ini_3, clsn_3, fun _ => ⟨(gwc_1 (i := 199) rfl rfl), (gwc_1 (i := 200) rfl rfl)⟩, fun h => absurd h (by decide), fun h => absurd h (by decide), rfl, Or.inl ⟨by decide, rfl⟩, by decide +kernel⟩
set_option maxRecDepth 100000 in
theorem key_46 : keyP 46 := ⟨(gwc_1 (i := 205) rfl rfl), ini_3, clsn_3, fun _ => ⟨(gwc_1 (i := 203) rfl rfl), (gwc_1 (i := 204) rfl rfl)⟩, fun h => absurd h (by decide), fun h => absurd h (by decide), rfl, Or.inl ⟨by decide, rfl⟩, by decide +kernel⟩
set_option maxRecDepth 100000 in
theorem key_47 : keyP 47 := ⟨(gwc_4 (i := 36) rfl rfl), ini_3, clsn_3, fun _ => ⟨(gwc_4 (i := 34) rfl rfl), (gwc_4 (i := 35) rfl rfl)⟩, fun h => absurd h (by decide), fun h => absurd h (by decide), rfl, Or.inl ⟨by decide, rfl⟩, by decide +kernel⟩
set_option maxRecDepth 100000 in
theorem key_48 : keyP 48 := ⟨(gwc_4 (i := 41) rfl rfl), ini_3, clsn_3, fun _ => ⟨(gwc_4 (i := 39) rfl rfl), (gwc_4 (i := 40) rfl rfl)⟩, fun h => absurd h (by decide), fun h => absurd h (by decide), rfl, Or.inl ⟨by decide, rfl⟩, by decide +kernel⟩
set_option maxRecDepth 100000 in
theorem key_49 : keyP 49 := ⟨(gwc_4 (i := 182) rfl rfl), ini_3, clsn_3, fun _ => ⟨(gwc_4 (i := 180) rfl rfl), (gwc_4 (i := 181) rfl rfl)⟩, fun h => absurd h (by decide), fun h => absurd h (by decide), rfl, Or.inl ⟨by decide, rfl⟩, by decide +kernel⟩
set_option maxRecDepth 100000 in
theorem key_50 : keyP 50 := ⟨(gwc_4 (i := 186) rfl rfl), ini_3, clsn_3, fun _ => ⟨(gwc_4 (i := 185) rfl rfl), (gw_of (i := 34) (by decide +kernel) rfl)⟩, fun h => absurd h (by decide), fun h => absurd h (by decide), rfl, Or.inl ⟨by decide, rfl⟩, by decide +kernel⟩
set_option maxRecDepth 100000 in
theorem key_51 : keyP 51 := ⟨(gwc_4 (i := 190) rfl rfl), ini_3, clsn_3, fun h => absurd h (by decide), fun _ => (gwc_4 (i := 189) rfl rfl), fun h => absurd h (by decide), rfl, Or.inr (Or.inr rfl), by decide +kernel⟩
set_option maxRecDepth 100000 in
theorem key_52 : keyP 52 := ⟨(gwc_2 (i := 198) rfl rfl), ini_4, clsn_4, fun h => absurd h (by decide), fun h => absurd h (by decide), fun _ => ⟨(gwc_2 (i := 197) rfl rfl), rfl⟩, rfl, Or.inl ⟨by decide, rfl⟩, by decide +kernel⟩
set_option maxRecDepth 100000 in
theorem key_53 : keyP 53 := ⟨(gwc_5 (i := 118) rfl rfl), ini_4, clsn_4, fun _ => ⟨(gwc_5 (i := 116) rfl rfl), (gwc_5 (i := 117) rfl rfl)⟩, fun h => absurd h (by decide), fun h => absurd h (by decide), rfl, Or.inl ⟨by decide, rfl⟩, by decide +kernel⟩
set_option maxRecDepth 100000 in
theorem key_54 : keyP 54 := ⟨(gwc_5 (i := 145) rfl rfl), ini_4, clsn_4, fun _ => ⟨(gwc_5 (i := 143) rfl rfl), (gwc_5 (i := 144) rfl rfl)⟩, fun h => absurd h (by decide), fun h => absurd h (by decide), rfl, Or.inl ⟨by decide, rfl⟩, by decide +kernel⟩
set_option maxRecDepth 100000 in
theorem key_55 : keyP 55 := ⟨(gwc_5 (i := 153) rfl rfl), ini_4, clsn_4, fun _ => ⟨(gwc_5 (i := 151) rfl rfl), (gwc_5 (i := 152) rfl rfl)⟩, fun h => absurd h (by decide), fun h => absurd h (by decide), rfl, Or.inl ⟨by decide, rfl⟩, by decide +kernel⟩
set_option maxRecDepth 100000 in
theorem key_56 : keyP 56 := ⟨(gwc_5 (i := 122) rfl rfl), ini_4, clsn_4, fun _ => ⟨(gwc_5 (i := 121) rfl rfl), (gw_of (i := 43) (by decide +kernel) rfl)⟩, fun h => absurd h (by decide), fun h => absurd h (by decide), rfl, Or.inl ⟨by decide, rfl⟩, by decide +kernel⟩
set_option maxRecDepth 100000 in
theorem key_57 : keyP 57 := ⟨(gwc_5 (i := 132) rfl rfl), ini_4, clsn_4, fun _ => ⟨(gwc_5 (i := 131) rfl rfl), (gw_of (i := 44) (by decide +kernel) rfl)⟩, fun h => absurd h (by decide), fun h => absurd h (by decide), rfl, Or.inl ⟨by decide, rfl⟩, by decide +kernel⟩
set_option maxRecDepth 100000 in
theorem key_58 : keyP 58 := ⟨(gwc_5 (i := 136) rfl rfl), ini_4, clsn_4, fun _ => ⟨(gwc_5 (i := 135) rfl rfl), (gw_of (i := 45) (by decide +kernel) rfl)⟩, fun h => absurd h (by decide), fun h => absurd h (by decide), rfl, Or.inl ⟨by decide, rfl⟩, by decide +kernel⟩
set_option maxRecDepth 100000 in
theorem key_59 : keyP 59 := ⟨(gwc_5 (i := 140) rfl rfl), ini_4, clsn_4, fun _ => ⟨(gwc_5 (i := 139) rfl rfl), (gw_of (i := 46) (by decide +kernel) rfl)⟩, fun h => absurd h (by decide), fun h => absurd h (by decide), rfl, Or.inl ⟨by decide, rfl⟩, by decide +kernel⟩
set_option maxRecDepth 100000 in
theorem key_60 : keyP 60 := ⟨(gwc_2 (i := 229) rfl rfl), ini_5, clsn_5, fun h => absurd h (by decide), fun h => absurd h (by decide), fun _ => ⟨(gwc_2 (i := 228) rfl rfl), rfl⟩, rfl, Or.inl ⟨by decide, rfl⟩, by decide +kernel⟩
set_option maxRecDepth 100000 in
theorem key_61 : keyP 61 := ⟨(gwc_5 (i := 166) rfl rfl), ini_5, clsn_5, fun _ => ⟨(gwc_5 (i := 164) rfl rfl), (gwc_5 (i := 165) rfl rfl)⟩, fun h => absurd h (by decide), fun h => absurd h (by decide), rfl, Or.inl ⟨by decide, rfl⟩, by decide +kernel⟩
set_option maxRecDepth 100000 in
theorem key_62 : keyP 62 := ⟨(gwc_5 (i := 172) rfl rfl), ini_5, clsn_5, fun _ => ⟨(gwc_5 (i := 171) rfl rfl), (gw_of (i := 47) (by decide +kernel) rfl)⟩, fun h => absurd h (by decide), fun h => absurd h (by decide), rfl, Or.inl ⟨by decide, rfl⟩, by decide +kernel⟩
set_option maxRecDepth 100000 in
theorem key_63 : keyP 63 := ⟨(gwc_5 (i := 176) rfl rfl), ini_5, clsn_5, fun _ => ⟨(gwc_5 (i := 175) rfl rfl), (gw_of (i := 48) (by decide +kernel) rfl)⟩, fun h => absurd h (by decide), fun h => absurd h (by decide), rfl, Or.inl ⟨by decide, rfl⟩, by decide +kernel⟩
set_option maxRecDepth 100000 in
theorem key_64 : keyP 64 := ⟨(gwc_3 (i := 8) rfl rfl), ini_6, clsn_6, fun h => absurd h (by decide), fun h => absurd h (by decide), fun _ => ⟨(gwc_3 (i := 7) rfl rfl), rfl⟩, rfl, Or.inl ⟨by decide, rfl⟩, by decide +kernel⟩
set_option maxRecDepth 100000 in
theorem key_65 : keyP 65 := ⟨(gwc_5 (i := 185) rfl rfl), ini_6, clsn_6, fun _ => ⟨(gwc_5 (i := 183) rfl rfl), (gwc_5 (i := 184) rfl rfl)⟩, fun h => absurd h (by decide), fun h => absurd h (by decide), rfl, Or.inl ⟨by decide, rfl⟩, by decide +kernel⟩
set_option maxRecDepth 100000 in
theorem key_66 : keyP 66 := ⟨(gwc_5 (i := 192) rfl rfl), ini_6, clsn_6, fun _ => ⟨(gwc_5 (i := 190) rfl rfl), (gwc_5 (i := 191) rfl rfl)⟩, fun h => absurd h (by decide), fun h => absurd h (by decide), rfl, Or.inl ⟨by decide, rfl⟩, by decide +kernel⟩
set_option maxRecDepth 100000 in
theorem key_67 : keyP 67 := ⟨(gwc_2 (i := 88) rfl rfl), ini_7, clsn_7, fun h => absurd h (by decide), fun h => absurd h (by decide), fun _ => ⟨(gwc_2 (i := 87) rfl rfl), rfl⟩, rfl, Or.inl ⟨by decide, rfl⟩, by decide +kernel⟩
set_option maxRecDepth 100000 in
theorem key_68 : keyP 68 := ⟨(gwc_3 (i := 31) rfl rfl), ini_7, clsn_7, fun _ => ⟨(gwc_3 (i := 29) rfl rfl), (gwc_3 (i := 30) rfl rfl)⟩, fun h => absurd h (by decide), fun h => absurd h (by decide), rfl, Or.inl ⟨by decide, rfl⟩, by decide +kernel⟩
set_option maxRecDepth 100000 in
theorem key_69 : keyP 69 := ⟨(gwc_4 (i := 234) rfl rfl), ini_7, clsn_7, fun _ => ⟨(gwc_4 (i := 232) rfl rfl), (gwc_4 (i := 233) rfl rfl)⟩, fun h => absurd h (by decide), fun h => absurd h (by decide), rfl, Or.inl ⟨by decide, rfl⟩, by decide +kernel⟩
set_option maxRecDepth 100000 in
theorem key_70 : keyP 70 := ⟨(gwc_5 (i := 64) rfl rfl), ini_7, clsn_7, fun _ => ⟨(gwc_5 (i := 62) rfl rfl), (gwc_5 (i := 63) rfl rfl)⟩, fun h => absurd h (by decide), fun h => absurd h (by decide), rfl, Or.inl ⟨by decide, rfl⟩, by decide +kernel⟩
set_option maxRecDepth 100000 in
theorem key_71 : keyP 71 := ⟨(gwc_5 (i := 76) rfl rfl), ini_7, clsn_7, fun _ => ⟨(gwc_5 (i := 74) rfl rfl), (gwc_5 (i := 75) rfl rfl)⟩, fun h => absurd h (by decide), fun h => absurd h (by decide), rfl, Or.inl ⟨by decide, rfl⟩, by decide +kernel⟩
set_option maxRecDepth 100000 in
theorem key_72 : keyP 72 := ⟨(gwc_5 (i := 72) rfl rfl), ini_7, clsn_7, fun _ => ⟨(gwc_5 (i := 70) rfl rfl), (gwc_5 (i := 71) rfl rfl)⟩, fun h => absurd h (by decide), fun h => absurd h (by decide), rfl, Or.inl ⟨by decide, rfl⟩, by decide +kernel⟩
set_option maxRecDepth 100000 in
theorem key_73 : keyP 73 := ⟨(gwc_1 (i := 142) rfl rfl), ini_8, clsn_8, fun h => absurd h (by decide), fun h => absurd h (by decide), fun _ => ⟨(gwc_1 (i := 141) rfl rfl), rfl⟩, rfl, Or.inl ⟨by decide, rfl⟩, by decide +kernel⟩
set_option maxRecDepth 100000 in
theorem key_74 : keyP 74 := ⟨(gwc_4 (i := 67) rfl rfl), ini_8, clsn_8, fun _ => ⟨(gwc_4 (i := 65) rfl rfl), (gwc_4 (i := 66) rfl rfl)⟩, fun h => absurd h (by decide), fun h => absurd h (by decide), rfl, Or.inl ⟨by decide, rfl⟩, by decide +kernel⟩
set_option maxRecDepth 100000 in
theorem key_75 : keyP 75 := ⟨(gwc_4 (i := 137) rfl rfl), ini_8, clsn_8, fun _ => ⟨(gwc_4 (i := 135) rfl rfl), (gwc_4 (i := 136) rfl rfl)⟩, fun h => absurd h (by decide), fun h => absurd h (by decide), rfl, Or.inl ⟨by decide, rfl⟩, by decide +kernel⟩
set_option maxRecDepth 100000 in
theorem key_76 : keyP 76 := ⟨(gwc_4 (i := 72) rfl rfl), ini_8, clsn_8, fun _ => ⟨(gwc_4 (i := 71) rfl rfl), (gw_of (i := 17) (by decide +kernel) rfl)⟩, fun h => absurd h (by decide), fun h => absurd h (by decide), rfl, Or.inl ⟨by decide, rfl⟩, by decide +kernel⟩
set_option maxRecDepth 100000 in
theorem key_77 : keyP 77 := ⟨(gwc_4 (i := 76) rfl rfl), ini_8, clsn_8, fun _ => ⟨(gwc_4 (i := 75) rfl rfl), (gw_of (i := 18) (by decide +kernel) rfl)⟩, fun h => absurd h (by decide), fun h => absurd h (by decide), rfl, Or.inl ⟨by decide, rfl⟩, by decide +kernel⟩
set_option maxRecDepth 100000 in
theorem key_78 : keyP 78 := ⟨(gwc_4 (i := 97) rfl rfl), ini_8, clsn_8, fun _ => ⟨(gwc_4 (i := 96) rfl rfl), (gw_of (i := 23) (by decide +kernel) rfl)⟩, fun h => absurd h (by decide), fun h => absurd h (by decide), rfl, Or.inl ⟨by decide, rfl⟩, by decide +kernel⟩
set_option maxRecDepth 100000 in
theorem key_79 : keyP 79 := ⟨(gwc_4 (i := 109) rfl rfl), ini_8, clsn_8, fun _ => ⟨(gwc_4 (i := 108) rfl rfl), (gw_of (i := 26) (by decide +kernel) rfl)⟩, fun h => absurd h (by decide), fun h => absurd h (by decide), rfl, Or.inl ⟨by decide, rfl⟩, by decide +kernel⟩
set_option maxRecDepth 100000 in
theorem key_80 : keyP 80 := ⟨(gwc_4 (i := 101) rfl rfl), ini_8, clsn_8, fun _ => ⟨(gwc_4 (i := 100) rfl rfl), (gw_of (i := 24) (by decide +kernel) rfl)⟩, fun h => absurd h (by decide), fun h => absurd h (by decide), rfl, Or.inl ⟨by decide, rfl⟩, by decide +kernel⟩
set_option maxRecDepth 100000 in
theorem key_81 : keyP 81 := ⟨(gwc_4 (i := 113) rfl rfl), ini_8, clsn_8, fun _ => ⟨(gwc_4 (i := 112) rfl rfl), (gw_of (i := 27) (by decide +kernel) rfl)⟩, fun h => absurd h (by decide), fun h => absurd h (by decide), rfl, Or.inl ⟨by decide, rfl⟩, by decide +kernel⟩
set_option maxRecDepth 100000 in
theorem key_82 : keyP 82 := ⟨(gwc_4 (i := 117) rfl rfl), ini_8, clsn_8, fun _ => ⟨(gwc_4 (i := 116) rfl rfl), (gw_of (i := 28) (by decide +kernel) rfl)⟩, fun h => absurd h (by decide), fun h => absurd h (by decide), rfl, Or.inl ⟨by decide, rfl⟩, by decide +kernel⟩
set_option maxRecDepth 100000 in
theorem key_83 : keyP 83 := ⟨(gwc_4 (i := 121) rfl rfl), ini_8, clsn_8, fun _ => ⟨(gwc_4 (i := 120) rfl rfl), (gw_of (i := 29) (by decide +kernel) rfl)⟩, fun h => absurd h (by decide), fun h => absurd h (by decide), rfl, Or.inl ⟨by decide, rfl⟩, by decide +kernel⟩
set_option maxRecDepth 100000 in
theorem key_84 : keyP 84 := ⟨(gwc_4 (i := 80) rfl rfl), ini_8, clsn_8, fun _ => ⟨(gwc_4 (i := 79) rfl rfl), (gw_of (i := 19) (by decide +kernel) rfl)⟩, fun h => absurd h (by decide), fun h => absurd h (by decide), rfl, Or.inl ⟨by decide, rfl⟩, by decide +kernel⟩
set_option maxRecDepth 100000 in
theorem key_85 : keyP 85 := ⟨(gwc_4 (i := 105) rfl rfl), ini_8, clsn_8, fun _ => ⟨(gwc_4 (i := 104) rfl rfl), (gw_of (i := 25) (by decide +kernel) rfl)⟩, fun h => absurd h (by decide), fun h => absurd h (by decide), rfl, Or.inl ⟨by decide, rfl⟩, by decide +kernel⟩
set_option maxRecDepth 100000 in
theorem key_86 : keyP 86 := ⟨(gwc_4 (i := 85) rfl rfl), ini_8, clsn_8, fun _ => ⟨(gwc_4 (i := 84) rfl rfl), (gw_of (i := 20) (by decide +kernel) rfl)⟩, fun h => absurd h (by decide), fun h => absurd h (by decide), rfl, Or.inl ⟨by decide, rfl⟩, by decide +kernel⟩
set_option maxRecDepth 100000 in
theorem key_87 : keyP 87 := ⟨(gwc_4 (i := 93) rfl rfl), ini_8, clsn_8, fun _ => ⟨(gwc_4 (i := 92) rfl rfl), (gw_of (i := 22) (by decide +kernel) rfl)⟩, fun h => absurd h (by decide), fun h => absurd h (by decide), rfl, Or.inl ⟨by decide, rfl⟩, by decide +kernel⟩
set_option maxRecDepth 100000 in
theorem key_88 : keyP 88 := ⟨(gwc_4 (i := 125) rfl rfl), ini_8, clsn_8, fun _ => ⟨(gwc_4 (i := 124) rfl rfl), (gw_of (i := 30) (by decide +kernel) rfl)⟩, fun h => absurd h (by decide), fun h => absurd h (by decide), rfl, Or.inl ⟨by decide, rfl⟩, by decide +kernel⟩
set_option maxRecDepth 100000 in
theorem key_89 : keyP 89 := ⟨(gwc_4 (i := 89) rfl rfl), ini_8, clsn_8, fun _ => ⟨(gwc_4 (i := 88) rfl rfl), (gw_of (i := 21) (by decide +kernel) rfl)⟩, fun h => absurd h (by decide), fun h => absurd h (by decide), rfl, Or.inl ⟨by decide, rfl⟩, by decide +kernel⟩
set_option maxRecDepth 100000 in
theorem key_90 : keyP 90 := ⟨(gwc_1 (i := 173) rfl rfl), ini_9, clsn_9, fun h => absurd h (by decide), fun h => absurd h (by decide), fun _ => ⟨(gwc_1 (i := 172) rfl rfl), rfl⟩, rfl, Or.inl ⟨by decide, rfl⟩, by decide +kernel⟩
set_option maxRecDepth 100000 in
theorem key_91 : keyP 91 := ⟨(gwc_1 (i := 194) rfl rfl), ini_9, clsn_9, fun _ => ⟨(gwc_1 (i := 192) rfl rfl), (gwc_1 (i := 193) rfl rfl)⟩, fun h => absurd h (by decide), fun h => absurd h (by decide), rfl, Or.inl ⟨by decide, rfl⟩, by decide +kernel⟩
set_option maxRecDepth 100000 in
theorem key_92 : keyP 92 := ⟨(gwc_4 (i := 129) rfl rfl), ini_9, clsn_9, fun _ => ⟨(gwc_4 (i := 127) rfl rfl), (gwc_4 (i := 128) rfl rfl)⟩, fun h => absurd h (by decide), fun h => absurd h (by decide), rfl, Or.inl ⟨by decide, rfl⟩, by decide +kernel⟩
set_option maxRecDepth 100000 in
theorem key_93 : keyP 93 := ⟨(gwc_4 (i := 133) rfl rfl), ini_9, clsn_9, fun _ => ⟨(gwc_4 (i := 131) rfl rfl), (gwc_4 (i := 132) rfl rfl)⟩, fun h => absurd h (by decide), fun h => absurd h (by decide), rfl, Or.inl ⟨by decide, rfl⟩, by decide +kernel⟩
set_option maxRecDepth 100000 in
theorem key_94 : keyP 94 := ⟨(gwc_5 (i := 205) rfl rfl), ini_9, clsn_9, fun _ => ⟨(gwc_5 (i := 203) rfl rfl), (gwc_5 (i := 204) rfl rfl)⟩, fun h => absurd h (by decide), fun h => absurd h (by decide), rfl, Or.inl ⟨by decide, rfl⟩, by decide +kernel⟩
set_option maxRecDepth 100000 in
theorem key_95 : keyP 95 := ⟨(gwc_3 (i := 230) rfl rfl), ini_9, clsn_9, fun _ => ⟨(gwc_3 (i := 228) rfl rfl), (gwc_3 (i := 229) rfl rfl)⟩, fun h => absurd h (by decide), fun h => absurd h (by decide), rfl, Or.inl ⟨by decide, rfl⟩, by decide +kernel⟩
set_option maxRecDepth 100000 in
theorem key_96 : keyP 96 := ⟨(gwc_1 (i := 35) rfl rfl), ini_10, clsn_10, fun h => absurd h (by decide), fun h => absurd h (by decide), fun _ => ⟨(gwc_1 (i := 34) rfl rfl), rfl⟩, rfl, Or.inl ⟨by decide, rfl⟩, by decide +kernel⟩
set_option maxRecDepth 100000 in
theorem key_97 : keyP 97 := ⟨(gwc_3 (i := 112) rfl rfl), ini_10, clsn_10, fun _ => ⟨(gwc_3 (i := 110) rfl rfl), (gwc_3 (i := 111) rfl rfl)⟩, fun h => absurd h (by decide), fun h => absurd h (by decide), rfl, Or.inl ⟨by decide, rfl⟩, by decide +kernel⟩
set_option maxRecDepth 100000 in
theorem key_98 : keyP 98 := ⟨(gwc_3 (i := 207) rfl rfl), ini_10, clsn_10, fun _ => ⟨(gwc_3 (i := 205) rfl rfl), (gwc_3 (i := 206) rfl rfl)⟩, fun h => absurd h (by decide), fun h => absurd h (by decide), rfl, Or.inl ⟨by decide, rfl⟩, by decide +kernel⟩
set_option maxRecDepth 100000 in
theorem key_99 : keyP 99 := ⟨(gwc_4 (i := 63) rfl rfl), ini_10, clsn_10, fun _ => ⟨(gwc_4 (i := 61) rfl rfl), (gwc_4 (i := 62) rfl rfl)⟩, fun h => absurd h (by decide), fun h => absurd h (by decide), rfl, Or.inl ⟨by decide, rfl⟩, by decide +kernel⟩
