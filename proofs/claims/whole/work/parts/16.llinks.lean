/-! THE LAW'S CODE AND LINKS -/
abbrev mL_law : zM := (x, code, 4, ret)
abbrev dL_law : Nat × Nat := (16, 377)
abbrev mL_cell : zM := (yL_cell, cL_cell, 2, some .int)
abbrev dL_cell : Nat × Nat := (0, 0)
set_option maxRecDepth 20000 in
theorem kL_cell : zLc mL_cell 2 := ⟨zCh_6 (List.mem_of_getElem? (i := 55) rfl) rfl, zCh_1 (List.mem_of_getElem? (i := 0) (by decide +kernel)) rfl, by decide, by decide, by decide +kernel⟩
theorem lL_9 : Cond.methodLink x.cls 9 yL_cell ∈ zT ∧ Cond.static yL_cell ∈ zT := ⟨zCh_6 (List.mem_of_getElem? (i := 53) (by decide +kernel)) rfl, zCh_6 (List.mem_of_getElem? (i := 54) (by decide +kernel)) rfl⟩
theorem lL_15 : Cond.methodLink x.cls 15 yX11_init ∈ zT ∧ Cond.instanceMethod yX11_init ∈ zT := ⟨zCh_1 (List.mem_of_getElem? (i := 20) (by decide +kernel)) rfl, zCh_1 (List.mem_of_getElem? (i := 21) (by decide +kernel)) rfl⟩
theorem lL_20 : Cond.methodLink x.cls 20 yX12_init ∈ zT ∧ Cond.instanceMethod yX12_init ∈ zT := ⟨zCh_6 (List.mem_of_getElem? (i := 217) (by decide +kernel)) rfl, zCh_6 (List.mem_of_getElem? (i := 218) (by decide +kernel)) rfl⟩
theorem lL_21 : Cond.methodLink x.cls 21 yX11_feed ∈ zT ∧ Cond.instanceMethod yX11_feed ∈ zT ∧ Cond.selects yX11_feed.cls yX11_feed yX11_feed ∈ zT := ⟨zCh_4 (List.mem_of_getElem? (i := 181) (by decide +kernel)) rfl, zCh_4 (List.mem_of_getElem? (i := 182) (by decide +kernel)) rfl, zCh_4 (List.mem_of_getElem? (i := 183) (by decide +kernel)) rfl⟩
theorem lL_25 : Cond.methodLink x.cls 25 yX12_feed ∈ zT ∧ Cond.instanceMethod yX12_feed ∈ zT ∧ Cond.selects yX12_feed.cls yX12_feed yX12_feed ∈ zT := ⟨zCh_6 (List.mem_of_getElem? (i := 56) (by decide +kernel)) rfl, zCh_6 (List.mem_of_getElem? (i := 57) (by decide +kernel)) rfl, zCh_6 (List.mem_of_getElem? (i := 58) (by decide +kernel)) rfl⟩
theorem lL_26 : Cond.methodLink x.cls 26 yX11_lie ∈ zT ∧ Cond.instanceMethod yX11_lie ∈ zT ∧ Cond.selects yX11_lie.cls yX11_lie yX11_lie ∈ zT := ⟨zCh_4 (List.mem_of_getElem? (i := 189) (by decide +kernel)) rfl, zCh_4 (List.mem_of_getElem? (i := 190) (by decide +kernel)) rfl, zCh_4 (List.mem_of_getElem? (i := 191) (by decide +kernel)) rfl⟩
theorem lL_30 : Cond.methodLink x.cls 30 yX12_lie ∈ zT ∧ Cond.instanceMethod yX12_lie ∈ zT ∧ Cond.selects yX12_lie.cls yX12_lie yX12_lie ∈ zT := ⟨zCh_9 (List.mem_of_getElem? (i := 35) (by decide +kernel)) rfl, zCh_9 (List.mem_of_getElem? (i := 36) (by decide +kernel)) rfl, zCh_9 (List.mem_of_getElem? (i := 37) (by decide +kernel)) rfl⟩
theorem lL_31 : Cond.methodLink x.cls 31 yX11_pass ∈ zT ∧ Cond.instanceMethod yX11_pass ∈ zT ∧ Cond.selects yX11_pass.cls yX11_pass yX11_pass ∈ zT := ⟨zCh_5 (List.mem_of_getElem? (i := 21) (by decide +kernel)) rfl, zCh_5 (List.mem_of_getElem? (i := 22) (by decide +kernel)) rfl, zCh_5 (List.mem_of_getElem? (i := 23) (by decide +kernel)) rfl⟩
theorem lL_34 : Cond.methodLink x.cls 34 yX12_pass ∈ zT ∧ Cond.instanceMethod yX12_pass ∈ zT ∧ Cond.selects yX12_pass.cls yX12_pass yX12_pass ∈ zT := ⟨zCh_9 (List.mem_of_getElem? (i := 91) (by decide +kernel)) rfl, zCh_9 (List.mem_of_getElem? (i := 92) (by decide +kernel)) rfl, zCh_9 (List.mem_of_getElem? (i := 93) (by decide +kernel)) rfl⟩
theorem lL_35 : Cond.methodLink x.cls 35 yX11_seal ∈ zT ∧ Cond.instanceMethod yX11_seal ∈ zT ∧ Cond.selects yX11_seal.cls yX11_seal yX11_seal ∈ zT := ⟨zCh_5 (List.mem_of_getElem? (i := 33) (by decide +kernel)) rfl, zCh_5 (List.mem_of_getElem? (i := 34) (by decide +kernel)) rfl, zCh_5 (List.mem_of_getElem? (i := 35) (by decide +kernel)) rfl⟩
theorem lL_39 : Cond.methodLink x.cls 39 yX12_seal ∈ zT ∧ Cond.instanceMethod yX12_seal ∈ zT ∧ Cond.selects yX12_seal.cls yX12_seal yX12_seal ∈ zT := ⟨zCh_6 (List.mem_of_getElem? (i := 65) (by decide +kernel)) rfl, zCh_6 (List.mem_of_getElem? (i := 66) (by decide +kernel)) rfl, zCh_6 (List.mem_of_getElem? (i := 67) (by decide +kernel)) rfl⟩
theorem lL_40 : Cond.methodLink x.cls 40 yX11_stamp ∈ zT ∧ Cond.instanceMethod yX11_stamp ∈ zT ∧ Cond.selects yX11_stamp.cls yX11_stamp yX11_stamp ∈ zT := ⟨zCh_5 (List.mem_of_getElem? (i := 50) (by decide +kernel)) rfl, zCh_5 (List.mem_of_getElem? (i := 51) (by decide +kernel)) rfl, zCh_5 (List.mem_of_getElem? (i := 52) (by decide +kernel)) rfl⟩
theorem lL_43 : Cond.methodLink x.cls 43 yX12_stamp ∈ zT ∧ Cond.instanceMethod yX12_stamp ∈ zT ∧ Cond.selects yX12_stamp.cls yX12_stamp yX12_stamp ∈ zT := ⟨zCh_6 (List.mem_of_getElem? (i := 196) (by decide +kernel)) rfl, zCh_6 (List.mem_of_getElem? (i := 197) (by decide +kernel)) rfl, zCh_6 (List.mem_of_getElem? (i := 198) (by decide +kernel)) rfl⟩
theorem lL_44 : Cond.methodLink x.cls 44 yX11_hash ∈ zT ∧ Cond.instanceMethod yX11_hash ∈ zT ∧ Cond.selects yX11_hash.cls yX11_hash yX11_hash ∈ zT := ⟨zCh_5 (List.mem_of_getElem? (i := 56) (by decide +kernel)) rfl, zCh_5 (List.mem_of_getElem? (i := 57) (by decide +kernel)) rfl, zCh_5 (List.mem_of_getElem? (i := 58) (by decide +kernel)) rfl⟩
theorem lL_48 : Cond.methodLink x.cls 48 yX12_hash ∈ zT ∧ Cond.instanceMethod yX12_hash ∈ zT ∧ Cond.selects yX12_hash.cls yX12_hash yX12_hash ∈ zT := ⟨zCh_6 (List.mem_of_getElem? (i := 208) (by decide +kernel)) rfl, zCh_6 (List.mem_of_getElem? (i := 209) (by decide +kernel)) rfl, zCh_6 (List.mem_of_getElem? (i := 210) (by decide +kernel)) rfl⟩
theorem lL_49 : Cond.methodLink x.cls 49 yX11_submit ∈ zT ∧ Cond.instanceMethod yX11_submit ∈ zT ∧ Cond.selects yX11_submit.cls yX11_submit yX11_submit ∈ zT := ⟨zCh_5 (List.mem_of_getElem? (i := 61) (by decide +kernel)) rfl, zCh_5 (List.mem_of_getElem? (i := 62) (by decide +kernel)) rfl, zCh_5 (List.mem_of_getElem? (i := 63) (by decide +kernel)) rfl⟩
theorem lL_53 : Cond.methodLink x.cls 53 yX12_submit ∈ zT ∧ Cond.instanceMethod yX12_submit ∈ zT ∧ Cond.selects yX12_submit.cls yX12_submit yX12_submit ∈ zT := ⟨zCh_9 (List.mem_of_getElem? (i := 99) (by decide +kernel)) rfl, zCh_9 (List.mem_of_getElem? (i := 100) (by decide +kernel)) rfl, zCh_9 (List.mem_of_getElem? (i := 101) (by decide +kernel)) rfl⟩
theorem lL_54 : Cond.methodLink x.cls 54 yX11_deliver ∈ zT ∧ Cond.instanceMethod yX11_deliver ∈ zT ∧ Cond.selects yX11_deliver.cls yX11_deliver yX11_deliver ∈ zT := ⟨zCh_5 (List.mem_of_getElem? (i := 72) (by decide +kernel)) rfl, zCh_5 (List.mem_of_getElem? (i := 73) (by decide +kernel)) rfl, zCh_5 (List.mem_of_getElem? (i := 74) (by decide +kernel)) rfl⟩
theorem lL_58 : Cond.methodLink x.cls 58 yX12_deliver ∈ zT ∧ Cond.instanceMethod yX12_deliver ∈ zT ∧ Cond.selects yX12_deliver.cls yX12_deliver yX12_deliver ∈ zT := ⟨zCh_9 (List.mem_of_getElem? (i := 116) (by decide +kernel)) rfl, zCh_9 (List.mem_of_getElem? (i := 117) (by decide +kernel)) rfl, zCh_9 (List.mem_of_getElem? (i := 118) (by decide +kernel)) rfl⟩
theorem lL_59 : Cond.methodLink x.cls 59 yX11_calm ∈ zT ∧ Cond.instanceMethod yX11_calm ∈ zT ∧ Cond.selects yX11_calm.cls yX11_calm yX11_calm ∈ zT := ⟨zCh_5 (List.mem_of_getElem? (i := 186) (by decide +kernel)) rfl, zCh_5 (List.mem_of_getElem? (i := 187) (by decide +kernel)) rfl, zCh_5 (List.mem_of_getElem? (i := 188) (by decide +kernel)) rfl⟩
theorem lL_63 : Cond.methodLink x.cls 63 yX12_calm ∈ zT ∧ Cond.instanceMethod yX12_calm ∈ zT ∧ Cond.selects yX12_calm.cls yX12_calm yX12_calm ∈ zT := ⟨zCh_9 (List.mem_of_getElem? (i := 173) (by decide +kernel)) rfl, zCh_9 (List.mem_of_getElem? (i := 174) (by decide +kernel)) rfl, zCh_9 (List.mem_of_getElem? (i := 175) (by decide +kernel)) rfl⟩
theorem lL_64 : Cond.methodLink x.cls 64 yX11_copy ∈ zT ∧ Cond.instanceMethod yX11_copy ∈ zT ∧ Cond.selects yX11_copy.cls yX11_copy yX11_copy ∈ zT := ⟨zCh_5 (List.mem_of_getElem? (i := 201) (by decide +kernel)) rfl, zCh_5 (List.mem_of_getElem? (i := 202) (by decide +kernel)) rfl, zCh_5 (List.mem_of_getElem? (i := 203) (by decide +kernel)) rfl⟩
theorem lL_68 : Cond.methodLink x.cls 68 yX12_copy ∈ zT ∧ Cond.instanceMethod yX12_copy ∈ zT ∧ Cond.selects yX12_copy.cls yX12_copy yX12_copy ∈ zT := ⟨zCh_9 (List.mem_of_getElem? (i := 186) (by decide +kernel)) rfl, zCh_9 (List.mem_of_getElem? (i := 187) (by decide +kernel)) rfl, zCh_9 (List.mem_of_getElem? (i := 188) (by decide +kernel)) rfl⟩
theorem lL_69 : Cond.methodLink x.cls 69 yX11_flying ∈ zT ∧ Cond.instanceMethod yX11_flying ∈ zT ∧ Cond.selects yX11_flying.cls yX11_flying yX11_flying ∈ zT := ⟨zCh_5 (List.mem_of_getElem? (i := 208) (by decide +kernel)) rfl, zCh_5 (List.mem_of_getElem? (i := 209) (by decide +kernel)) rfl, zCh_5 (List.mem_of_getElem? (i := 210) (by decide +kernel)) rfl⟩
theorem lL_72 : Cond.methodLink x.cls 72 yX12_flying ∈ zT ∧ Cond.instanceMethod yX12_flying ∈ zT ∧ Cond.selects yX12_flying.cls yX12_flying yX12_flying ∈ zT := ⟨zCh_9 (List.mem_of_getElem? (i := 190) (by decide +kernel)) rfl, zCh_9 (List.mem_of_getElem? (i := 191) (by decide +kernel)) rfl, zCh_9 (List.mem_of_getElem? (i := 192) (by decide +kernel)) rfl⟩
theorem lL_73 : Cond.methodLink x.cls 73 yX11_bytes ∈ zT ∧ Cond.instanceMethod yX11_bytes ∈ zT ∧ Cond.selects yX11_bytes.cls yX11_bytes yX11_bytes ∈ zT := ⟨zCh_5 (List.mem_of_getElem? (i := 212) (by decide +kernel)) rfl, zCh_5 (List.mem_of_getElem? (i := 213) (by decide +kernel)) rfl, zCh_5 (List.mem_of_getElem? (i := 214) (by decide +kernel)) rfl⟩
theorem lL_76 : Cond.methodLink x.cls 76 yX12_bytes ∈ zT ∧ Cond.instanceMethod yX12_bytes ∈ zT ∧ Cond.selects yX12_bytes.cls yX12_bytes yX12_bytes ∈ zT := ⟨zCh_9 (List.mem_of_getElem? (i := 194) (by decide +kernel)) rfl, zCh_9 (List.mem_of_getElem? (i := 195) (by decide +kernel)) rfl, zCh_9 (List.mem_of_getElem? (i := 196) (by decide +kernel)) rfl⟩
theorem lL_77 : Cond.methodLink x.cls 77 yX11_tick ∈ zT ∧ Cond.instanceMethod yX11_tick ∈ zT ∧ Cond.selects yX11_tick.cls yX11_tick yX11_tick ∈ zT := ⟨zCh_5 (List.mem_of_getElem? (i := 217) (by decide +kernel)) rfl, zCh_5 (List.mem_of_getElem? (i := 218) (by decide +kernel)) rfl, zCh_5 (List.mem_of_getElem? (i := 219) (by decide +kernel)) rfl⟩
theorem lL_81 : Cond.methodLink x.cls 81 yX12_tick ∈ zT ∧ Cond.instanceMethod yX12_tick ∈ zT ∧ Cond.selects yX12_tick.cls yX12_tick yX12_tick ∈ zT := ⟨zCh_9 (List.mem_of_getElem? (i := 198) (by decide +kernel)) rfl, zCh_9 (List.mem_of_getElem? (i := 179) (by decide +kernel)) rfl, zCh_9 (List.mem_of_getElem? (i := 180) (by decide +kernel)) rfl⟩
theorem lL_82 : Cond.methodLink x.cls 82 yX11_crash ∈ zT ∧ Cond.instanceMethod yX11_crash ∈ zT ∧ Cond.selects yX11_crash.cls yX11_crash yX11_crash ∈ zT := ⟨zCh_5 (List.mem_of_getElem? (i := 221) (by decide +kernel)) rfl, zCh_5 (List.mem_of_getElem? (i := 222) (by decide +kernel)) rfl, zCh_5 (List.mem_of_getElem? (i := 223) (by decide +kernel)) rfl⟩
theorem lL_85 : Cond.methodLink x.cls 85 yX12_crash ∈ zT ∧ Cond.instanceMethod yX12_crash ∈ zT ∧ Cond.selects yX12_crash.cls yX12_crash yX12_crash ∈ zT := ⟨zCh_9 (List.mem_of_getElem? (i := 199) (by decide +kernel)) rfl, zCh_9 (List.mem_of_getElem? (i := 200) (by decide +kernel)) rfl, zCh_9 (List.mem_of_getElem? (i := 201) (by decide +kernel)) rfl⟩
theorem lL_86 : Cond.methodLink x.cls 86 yX11_cut ∈ zT ∧ Cond.instanceMethod yX11_cut ∈ zT ∧ Cond.selects yX11_cut.cls yX11_cut yX11_cut ∈ zT := ⟨zCh_5 (List.mem_of_getElem? (i := 226) (by decide +kernel)) rfl, zCh_5 (List.mem_of_getElem? (i := 227) (by decide +kernel)) rfl, zCh_5 (List.mem_of_getElem? (i := 228) (by decide +kernel)) rfl⟩
theorem lL_90 : Cond.methodLink x.cls 90 yX12_cut ∈ zT ∧ Cond.instanceMethod yX12_cut ∈ zT ∧ Cond.selects yX12_cut.cls yX12_cut yX12_cut ∈ zT := ⟨zCh_9 (List.mem_of_getElem? (i := 203) (by decide +kernel)) rfl, zCh_9 (List.mem_of_getElem? (i := 204) (by decide +kernel)) rfl, zCh_9 (List.mem_of_getElem? (i := 205) (by decide +kernel)) rfl⟩
theorem lL_91 : Cond.methodLink x.cls 91 yX11_restart ∈ zT ∧ Cond.instanceMethod yX11_restart ∈ zT ∧ Cond.selects yX11_restart.cls yX11_restart yX11_restart ∈ zT := ⟨zCh_5 (List.mem_of_getElem? (i := 230) (by decide +kernel)) rfl, zCh_5 (List.mem_of_getElem? (i := 231) (by decide +kernel)) rfl, zCh_5 (List.mem_of_getElem? (i := 232) (by decide +kernel)) rfl⟩
theorem lL_94 : Cond.methodLink x.cls 94 yX12_restart ∈ zT ∧ Cond.instanceMethod yX12_restart ∈ zT ∧ Cond.selects yX12_restart.cls yX12_restart yX12_restart ∈ zT := ⟨zCh_9 (List.mem_of_getElem? (i := 207) (by decide +kernel)) rfl, zCh_9 (List.mem_of_getElem? (i := 208) (by decide +kernel)) rfl, zCh_9 (List.mem_of_getElem? (i := 209) (by decide +kernel)) rfl⟩
theorem lL_95 : Cond.methodLink x.cls 95 yX11_state ∈ zT ∧ Cond.instanceMethod yX11_state ∈ zT ∧ Cond.selects yX11_state.cls yX11_state yX11_state ∈ zT := ⟨zCh_6 (List.mem_of_getElem? (i := 2) (by decide +kernel)) rfl, zCh_6 (List.mem_of_getElem? (i := 3) (by decide +kernel)) rfl, zCh_6 (List.mem_of_getElem? (i := 4) (by decide +kernel)) rfl⟩
theorem lL_98 : Cond.methodLink x.cls 98 yX12_state ∈ zT ∧ Cond.instanceMethod yX12_state ∈ zT ∧ Cond.selects yX12_state.cls yX12_state yX12_state ∈ zT := ⟨zCh_9 (List.mem_of_getElem? (i := 211) (by decide +kernel)) rfl, zCh_9 (List.mem_of_getElem? (i := 212) (by decide +kernel)) rfl, zCh_9 (List.mem_of_getElem? (i := 213) (by decide +kernel)) rfl⟩
theorem lL_99 : Cond.methodLink x.cls 99 yX11_block ∈ zT ∧ Cond.instanceMethod yX11_block ∈ zT ∧ Cond.selects yX11_block.cls yX11_block yX11_block ∈ zT := ⟨zCh_6 (List.mem_of_getElem? (i := 10) (by decide +kernel)) rfl, zCh_6 (List.mem_of_getElem? (i := 11) (by decide +kernel)) rfl, zCh_6 (List.mem_of_getElem? (i := 12) (by decide +kernel)) rfl⟩
theorem lL_103 : Cond.methodLink x.cls 103 yX12_block ∈ zT ∧ Cond.instanceMethod yX12_block ∈ zT ∧ Cond.selects yX12_block.cls yX12_block yX12_block ∈ zT := ⟨zCh_9 (List.mem_of_getElem? (i := 215) (by decide +kernel)) rfl, zCh_9 (List.mem_of_getElem? (i := 216) (by decide +kernel)) rfl, zCh_9 (List.mem_of_getElem? (i := 217) (by decide +kernel)) rfl⟩
theorem lL_104 : Cond.methodLink x.cls 104 yX11_paid ∈ zT ∧ Cond.instanceMethod yX11_paid ∈ zT ∧ Cond.selects yX11_paid.cls yX11_paid yX11_paid ∈ zT := ⟨zCh_6 (List.mem_of_getElem? (i := 15) (by decide +kernel)) rfl, zCh_6 (List.mem_of_getElem? (i := 16) (by decide +kernel)) rfl, zCh_6 (List.mem_of_getElem? (i := 17) (by decide +kernel)) rfl⟩
theorem lL_107 : Cond.methodLink x.cls 107 yX12_paid ∈ zT ∧ Cond.instanceMethod yX12_paid ∈ zT ∧ Cond.selects yX12_paid.cls yX12_paid yX12_paid ∈ zT := ⟨zCh_9 (List.mem_of_getElem? (i := 219) (by decide +kernel)) rfl, zCh_9 (List.mem_of_getElem? (i := 220) (by decide +kernel)) rfl, zCh_9 (List.mem_of_getElem? (i := 221) (by decide +kernel)) rfl⟩
theorem lL_108 : Cond.methodLink x.cls 108 yX11_path ∈ zT ∧ Cond.instanceMethod yX11_path ∈ zT ∧ Cond.selects yX11_path.cls yX11_path yX11_path ∈ zT := ⟨zCh_6 (List.mem_of_getElem? (i := 21) (by decide +kernel)) rfl, zCh_6 (List.mem_of_getElem? (i := 22) (by decide +kernel)) rfl, zCh_6 (List.mem_of_getElem? (i := 23) (by decide +kernel)) rfl⟩
theorem lL_112 : Cond.methodLink x.cls 112 yX12_path_ ∈ zT ∧ Cond.instanceMethod yX12_path_ ∈ zT ∧ Cond.selects yX12_path_.cls yX12_path_ yX12_path_ ∈ zT := ⟨zCh_9 (List.mem_of_getElem? (i := 223) (by decide +kernel)) rfl, zCh_9 (List.mem_of_getElem? (i := 224) (by decide +kernel)) rfl, zCh_9 (List.mem_of_getElem? (i := 225) (by decide +kernel)) rfl⟩
theorem lL_113 : Cond.methodLink x.cls 113 yX11_account ∈ zT ∧ Cond.instanceMethod yX11_account ∈ zT ∧ Cond.selects yX11_account.cls yX11_account yX11_account ∈ zT := ⟨zCh_6 (List.mem_of_getElem? (i := 25) (by decide +kernel)) rfl, zCh_6 (List.mem_of_getElem? (i := 26) (by decide +kernel)) rfl, zCh_6 (List.mem_of_getElem? (i := 27) (by decide +kernel)) rfl⟩
theorem lL_116 : Cond.methodLink x.cls 116 yX12_account ∈ zT ∧ Cond.instanceMethod yX12_account ∈ zT ∧ Cond.selects yX12_account.cls yX12_account yX12_account ∈ zT := ⟨zCh_10 (List.mem_of_getElem? (i := 3) (by decide +kernel)) rfl, zCh_10 (List.mem_of_getElem? (i := 4) (by decide +kernel)) rfl, zCh_10 (List.mem_of_getElem? (i := 5) (by decide +kernel)) rfl⟩
theorem lL_117 : Cond.methodLink x.cls 117 yX11_sector ∈ zT ∧ Cond.instanceMethod yX11_sector ∈ zT ∧ Cond.selects yX11_sector.cls yX11_sector yX11_sector ∈ zT := ⟨zCh_6 (List.mem_of_getElem? (i := 31) (by decide +kernel)) rfl, zCh_6 (List.mem_of_getElem? (i := 32) (by decide +kernel)) rfl, zCh_6 (List.mem_of_getElem? (i := 33) (by decide +kernel)) rfl⟩
theorem lL_120 : Cond.methodLink x.cls 120 yX12_sector ∈ zT ∧ Cond.instanceMethod yX12_sector ∈ zT ∧ Cond.selects yX12_sector.cls yX12_sector yX12_sector ∈ zT := ⟨zCh_10 (List.mem_of_getElem? (i := 7) (by decide +kernel)) rfl, zCh_10 (List.mem_of_getElem? (i := 8) (by decide +kernel)) rfl, zCh_10 (List.mem_of_getElem? (i := 9) (by decide +kernel)) rfl⟩
theorem lL_121 : Cond.methodLink x.cls 121 yX11_proof ∈ zT ∧ Cond.instanceMethod yX11_proof ∈ zT ∧ Cond.selects yX11_proof.cls yX11_proof yX11_proof ∈ zT := ⟨zCh_6 (List.mem_of_getElem? (i := 36) (by decide +kernel)) rfl, zCh_6 (List.mem_of_getElem? (i := 37) (by decide +kernel)) rfl, zCh_6 (List.mem_of_getElem? (i := 38) (by decide +kernel)) rfl⟩
theorem lL_124 : Cond.methodLink x.cls 124 yX12_proof ∈ zT ∧ Cond.instanceMethod yX12_proof ∈ zT ∧ Cond.selects yX12_proof.cls yX12_proof yX12_proof ∈ zT := ⟨zCh_6 (List.mem_of_getElem? (i := 212) (by decide +kernel)) rfl, zCh_6 (List.mem_of_getElem? (i := 213) (by decide +kernel)) rfl, zCh_6 (List.mem_of_getElem? (i := 214) (by decide +kernel)) rfl⟩
theorem lL_125 : Cond.methodLink x.cls 125 yX11_balance ∈ zT ∧ Cond.instanceMethod yX11_balance ∈ zT ∧ Cond.selects yX11_balance.cls yX11_balance yX11_balance ∈ zT := ⟨zCh_6 (List.mem_of_getElem? (i := 45) (by decide +kernel)) rfl, zCh_6 (List.mem_of_getElem? (i := 46) (by decide +kernel)) rfl, zCh_6 (List.mem_of_getElem? (i := 47) (by decide +kernel)) rfl⟩
theorem lL_128 : Cond.methodLink x.cls 128 yX12_balance ∈ zT ∧ Cond.instanceMethod yX12_balance ∈ zT ∧ Cond.selects yX12_balance.cls yX12_balance yX12_balance ∈ zT := ⟨zCh_10 (List.mem_of_getElem? (i := 11) (by decide +kernel)) rfl, zCh_10 (List.mem_of_getElem? (i := 12) (by decide +kernel)) rfl, zCh_10 (List.mem_of_getElem? (i := 13) (by decide +kernel)) rfl⟩
theorem lL_129 : Cond.methodLink x.cls 129 yX11_count ∈ zT ∧ Cond.instanceMethod yX11_count ∈ zT ∧ Cond.selects yX11_count.cls yX11_count yX11_count ∈ zT := ⟨zCh_6 (List.mem_of_getElem? (i := 49) (by decide +kernel)) rfl, zCh_6 (List.mem_of_getElem? (i := 50) (by decide +kernel)) rfl, zCh_6 (List.mem_of_getElem? (i := 51) (by decide +kernel)) rfl⟩
theorem lL_132 : Cond.methodLink x.cls 132 yX12_count ∈ zT ∧ Cond.instanceMethod yX12_count ∈ zT ∧ Cond.selects yX12_count.cls yX12_count yX12_count ∈ zT := ⟨zCh_10 (List.mem_of_getElem? (i := 15) (by decide +kernel)) rfl, zCh_10 (List.mem_of_getElem? (i := 16) (by decide +kernel)) rfl, zCh_10 (List.mem_of_getElem? (i := 17) (by decide +kernel)) rfl⟩
theorem clL_7 : Cond.classLink x.cls 7 "QuorumLedger" ∈ zT := zCh_1 (List.mem_of_getElem? (i := 18) (by decide +kernel)) rfl
theorem clL_18 : Cond.classLink x.cls 18 "QuorumLedgerModel" ∈ zT := zCh_6 (List.mem_of_getElem? (i := 216) (by decide +kernel)) rfl
theorem dL_cell_0 : decode cL_cell 0 = .ok (.iload_n 1, 1) := by decide +kernel
theorem dL_cell_1 : decode cL_cell 1 = .ok (.aload_n 0, 1) := by decide +kernel
theorem dL_cell_2 : decode cL_cell 2 = .ok (.arraylength, 1) := by decide +kernel
theorem dL_cell_3 : decode cL_cell 3 = .ok (.if_icmp .ge 9, 3) := by decide +kernel
theorem dL_cell_6 : decode cL_cell 6 = .ok (.aload_n 0, 1) := by decide +kernel
theorem dL_cell_7 : decode cL_cell 7 = .ok (.iload_n 1, 1) := by decide +kernel
theorem dL_cell_8 : decode cL_cell 8 = .ok (.iaload, 1) := by decide +kernel
theorem dL_cell_9 : decode cL_cell 9 = .ok (.goto 4, 3) := by decide +kernel
theorem dL_cell_12 : decode cL_cell 12 = .ok (.iconst 0, 1) := by decide +kernel
theorem dL_cell_13 : decode cL_cell 13 = .ok (.ireturn, 1) := by decide +kernel
theorem dL_law_0 : decode code 0 = .ok (.new 7, 3) := by decide +kernel
theorem dL_law_3 : decode code 3 = .ok (.dup, 1) := by decide +kernel
theorem dL_law_4 : decode code 4 = .ok (.aload_n 0, 1) := by decide +kernel
theorem dL_law_5 : decode code 5 = .ok (.iconst 0, 1) := by decide +kernel
theorem dL_law_6 : decode code 6 = .ok (.invokestatic 9, 3) := by decide +kernel
theorem dL_law_9 : decode code 9 = .ok (.aload_n 0, 1) := by decide +kernel
theorem dL_law_10 : decode code 10 = .ok (.iconst 1, 1) := by decide +kernel
theorem dL_law_11 : decode code 11 = .ok (.invokestatic 9, 3) := by decide +kernel
theorem dL_law_14 : decode code 14 = .ok (.invokespecial 15, 3) := by decide +kernel
theorem dL_law_17 : decode code 17 = .ok (.astore_n 1, 1) := by decide +kernel
theorem dL_law_18 : decode code 18 = .ok (.new 18, 3) := by decide +kernel
theorem dL_law_21 : decode code 21 = .ok (.dup, 1) := by decide +kernel
theorem dL_law_22 : decode code 22 = .ok (.aload_n 0, 1) := by decide +kernel
theorem dL_law_23 : decode code 23 = .ok (.iconst 0, 1) := by decide +kernel
theorem dL_law_24 : decode code 24 = .ok (.invokestatic 9, 3) := by decide +kernel
theorem dL_law_27 : decode code 27 = .ok (.aload_n 0, 1) := by decide +kernel
theorem dL_law_28 : decode code 28 = .ok (.iconst 1, 1) := by decide +kernel
theorem dL_law_29 : decode code 29 = .ok (.invokestatic 9, 3) := by decide +kernel
theorem dL_law_32 : decode code 32 = .ok (.invokespecial 20, 3) := by decide +kernel
theorem dL_law_35 : decode code 35 = .ok (.astore_n 2, 1) := by decide +kernel
theorem dL_law_36 : decode code 36 = .ok (.iconst 2, 1) := by decide +kernel
theorem dL_law_37 : decode code 37 = .ok (.istore_n 3, 1) := by decide +kernel
theorem dL_law_38 : decode code 38 = .ok (.iload_n 3, 1) := by decide +kernel
theorem dL_law_39 : decode code 39 = .ok (.aload_n 0, 1) := by decide +kernel
theorem dL_law_40 : decode code 40 = .ok (.arraylength, 1) := by decide +kernel
theorem dL_law_41 : decode code 41 = .ok (.bipush 7, 2) := by decide +kernel
theorem dL_law_43 : decode code 43 = .ok (.isub, 1) := by decide +kernel
theorem dL_law_44 : decode code 44 = .ok (.if_icmp .gt 1063, 3) := by decide +kernel
theorem dL_law_47 : decode code 47 = .ok (.aload_n 0, 1) := by decide +kernel
theorem dL_law_48 : decode code 48 = .ok (.iload_n 3, 1) := by decide +kernel
theorem dL_law_49 : decode code 49 = .ok (.iaload, 1) := by decide +kernel
theorem dL_law_50 : decode code 50 = .ok (.bipush 31, 2) := by decide +kernel
theorem dL_law_52 : decode code 52 = .ok (.iand, 1) := by decide +kernel
theorem dL_law_53 : decode code 53 = .ok (.tableswitch 1048 0 24 #[115, 178, 221, 264, 307, 350, 384, 459, 482, 515, 538, 571, 605, 618, 641, 674, 697, 730, 774, 807, 861, 905, 949, 992, 1025], 115) := by decide +kernel
theorem dL_law_168 : decode code 168 = .ok (.aload_n 1, 1) := by decide +kernel
theorem dL_law_169 : decode code 169 = .ok (.aload_n 0, 1) := by decide +kernel
theorem dL_law_170 : decode code 170 = .ok (.iload_n 3, 1) := by decide +kernel
theorem dL_law_171 : decode code 171 = .ok (.iconst 1, 1) := by decide +kernel
theorem dL_law_172 : decode code 172 = .ok (.iadd, 1) := by decide +kernel
theorem dL_law_173 : decode code 173 = .ok (.iaload, 1) := by decide +kernel
theorem dL_law_174 : decode code 174 = .ok (.aload_n 0, 1) := by decide +kernel
theorem dL_law_175 : decode code 175 = .ok (.iload_n 3, 1) := by decide +kernel
theorem dL_law_176 : decode code 176 = .ok (.iconst 2, 1) := by decide +kernel
theorem dL_law_177 : decode code 177 = .ok (.iadd, 1) := by decide +kernel
theorem dL_law_178 : decode code 178 = .ok (.iaload, 1) := by decide +kernel
theorem dL_law_179 : decode code 179 = .ok (.aload_n 0, 1) := by decide +kernel
theorem dL_law_180 : decode code 180 = .ok (.iload_n 3, 1) := by decide +kernel
theorem dL_law_181 : decode code 181 = .ok (.iconst 3, 1) := by decide +kernel
theorem dL_law_182 : decode code 182 = .ok (.iadd, 1) := by decide +kernel
theorem dL_law_183 : decode code 183 = .ok (.iaload, 1) := by decide +kernel
theorem dL_law_184 : decode code 184 = .ok (.aload_n 0, 1) := by decide +kernel
theorem dL_law_185 : decode code 185 = .ok (.iload_n 3, 1) := by decide +kernel
theorem dL_law_186 : decode code 186 = .ok (.iconst 4, 1) := by decide +kernel
theorem dL_law_187 : decode code 187 = .ok (.iadd, 1) := by decide +kernel
theorem dL_law_188 : decode code 188 = .ok (.iaload, 1) := by decide +kernel
theorem dL_law_189 : decode code 189 = .ok (.aload_n 0, 1) := by decide +kernel
theorem dL_law_190 : decode code 190 = .ok (.iload_n 3, 1) := by decide +kernel
theorem dL_law_191 : decode code 191 = .ok (.iconst 5, 1) := by decide +kernel
theorem dL_law_192 : decode code 192 = .ok (.iadd, 1) := by decide +kernel
theorem dL_law_193 : decode code 193 = .ok (.iaload, 1) := by decide +kernel
theorem dL_law_194 : decode code 194 = .ok (.invokevirtual 21, 3) := by decide +kernel
theorem dL_law_197 : decode code 197 = .ok (.aload_n 2, 1) := by decide +kernel
theorem dL_law_198 : decode code 198 = .ok (.aload_n 0, 1) := by decide +kernel
theorem dL_law_199 : decode code 199 = .ok (.iload_n 3, 1) := by decide +kernel
theorem dL_law_200 : decode code 200 = .ok (.iconst 1, 1) := by decide +kernel
theorem dL_law_201 : decode code 201 = .ok (.iadd, 1) := by decide +kernel
theorem dL_law_202 : decode code 202 = .ok (.iaload, 1) := by decide +kernel
theorem dL_law_203 : decode code 203 = .ok (.aload_n 0, 1) := by decide +kernel
theorem dL_law_204 : decode code 204 = .ok (.iload_n 3, 1) := by decide +kernel
theorem dL_law_205 : decode code 205 = .ok (.iconst 2, 1) := by decide +kernel
theorem dL_law_206 : decode code 206 = .ok (.iadd, 1) := by decide +kernel
theorem dL_law_207 : decode code 207 = .ok (.iaload, 1) := by decide +kernel
theorem dL_law_208 : decode code 208 = .ok (.aload_n 0, 1) := by decide +kernel
theorem dL_law_209 : decode code 209 = .ok (.iload_n 3, 1) := by decide +kernel
theorem dL_law_210 : decode code 210 = .ok (.iconst 3, 1) := by decide +kernel
theorem dL_law_211 : decode code 211 = .ok (.iadd, 1) := by decide +kernel
theorem dL_law_212 : decode code 212 = .ok (.iaload, 1) := by decide +kernel
theorem dL_law_213 : decode code 213 = .ok (.aload_n 0, 1) := by decide +kernel
theorem dL_law_214 : decode code 214 = .ok (.iload_n 3, 1) := by decide +kernel
theorem dL_law_215 : decode code 215 = .ok (.iconst 4, 1) := by decide +kernel
theorem dL_law_216 : decode code 216 = .ok (.iadd, 1) := by decide +kernel
theorem dL_law_217 : decode code 217 = .ok (.iaload, 1) := by decide +kernel
theorem dL_law_218 : decode code 218 = .ok (.aload_n 0, 1) := by decide +kernel
theorem dL_law_219 : decode code 219 = .ok (.iload_n 3, 1) := by decide +kernel
theorem dL_law_220 : decode code 220 = .ok (.iconst 5, 1) := by decide +kernel
theorem dL_law_221 : decode code 221 = .ok (.iadd, 1) := by decide +kernel
theorem dL_law_222 : decode code 222 = .ok (.iaload, 1) := by decide +kernel
theorem dL_law_223 : decode code 223 = .ok (.invokevirtual 25, 3) := by decide +kernel
theorem dL_law_226 : decode code 226 = .ok (.if_icmp .eq 875, 3) := by decide +kernel
theorem dL_law_229 : decode code 229 = .ok (.iconst 0, 1) := by decide +kernel
theorem dL_law_230 : decode code 230 = .ok (.ireturn, 1) := by decide +kernel
theorem dL_law_231 : decode code 231 = .ok (.aload_n 1, 1) := by decide +kernel
theorem dL_law_232 : decode code 232 = .ok (.aload_n 0, 1) := by decide +kernel
theorem dL_law_233 : decode code 233 = .ok (.iload_n 3, 1) := by decide +kernel
theorem dL_law_234 : decode code 234 = .ok (.iconst 1, 1) := by decide +kernel
theorem dL_law_235 : decode code 235 = .ok (.iadd, 1) := by decide +kernel
theorem dL_law_236 : decode code 236 = .ok (.iaload, 1) := by decide +kernel
theorem dL_law_237 : decode code 237 = .ok (.aload_n 0, 1) := by decide +kernel
theorem dL_law_238 : decode code 238 = .ok (.iload_n 3, 1) := by decide +kernel
theorem dL_law_239 : decode code 239 = .ok (.iconst 2, 1) := by decide +kernel
theorem dL_law_240 : decode code 240 = .ok (.iadd, 1) := by decide +kernel
theorem dL_law_241 : decode code 241 = .ok (.iaload, 1) := by decide +kernel
theorem dL_law_242 : decode code 242 = .ok (.aload_n 0, 1) := by decide +kernel
theorem dL_law_243 : decode code 243 = .ok (.iload_n 3, 1) := by decide +kernel
theorem dL_law_244 : decode code 244 = .ok (.iconst 3, 1) := by decide +kernel
theorem dL_law_245 : decode code 245 = .ok (.iadd, 1) := by decide +kernel
theorem dL_law_246 : decode code 246 = .ok (.iaload, 1) := by decide +kernel
theorem dL_law_247 : decode code 247 = .ok (.invokevirtual 26, 3) := by decide +kernel
theorem dL_law_250 : decode code 250 = .ok (.aload_n 2, 1) := by decide +kernel
theorem dL_law_251 : decode code 251 = .ok (.aload_n 0, 1) := by decide +kernel
theorem dL_law_252 : decode code 252 = .ok (.iload_n 3, 1) := by decide +kernel
theorem dL_law_253 : decode code 253 = .ok (.iconst 1, 1) := by decide +kernel
theorem dL_law_254 : decode code 254 = .ok (.iadd, 1) := by decide +kernel
theorem dL_law_255 : decode code 255 = .ok (.iaload, 1) := by decide +kernel
theorem dL_law_256 : decode code 256 = .ok (.aload_n 0, 1) := by decide +kernel
theorem dL_law_257 : decode code 257 = .ok (.iload_n 3, 1) := by decide +kernel
theorem dL_law_258 : decode code 258 = .ok (.iconst 2, 1) := by decide +kernel
theorem dL_law_259 : decode code 259 = .ok (.iadd, 1) := by decide +kernel
theorem dL_law_260 : decode code 260 = .ok (.iaload, 1) := by decide +kernel
theorem dL_law_261 : decode code 261 = .ok (.aload_n 0, 1) := by decide +kernel
theorem dL_law_262 : decode code 262 = .ok (.iload_n 3, 1) := by decide +kernel
theorem dL_law_263 : decode code 263 = .ok (.iconst 3, 1) := by decide +kernel
theorem dL_law_264 : decode code 264 = .ok (.iadd, 1) := by decide +kernel
theorem dL_law_265 : decode code 265 = .ok (.iaload, 1) := by decide +kernel
theorem dL_law_266 : decode code 266 = .ok (.invokevirtual 30, 3) := by decide +kernel
theorem dL_law_269 : decode code 269 = .ok (.if_icmp .eq 832, 3) := by decide +kernel
theorem dL_law_272 : decode code 272 = .ok (.iconst 0, 1) := by decide +kernel
theorem dL_law_273 : decode code 273 = .ok (.ireturn, 1) := by decide +kernel
theorem dL_law_274 : decode code 274 = .ok (.aload_n 1, 1) := by decide +kernel
theorem dL_law_275 : decode code 275 = .ok (.aload_n 0, 1) := by decide +kernel
theorem dL_law_276 : decode code 276 = .ok (.iload_n 3, 1) := by decide +kernel
theorem dL_law_277 : decode code 277 = .ok (.iconst 1, 1) := by decide +kernel
theorem dL_law_278 : decode code 278 = .ok (.iadd, 1) := by decide +kernel
theorem dL_law_279 : decode code 279 = .ok (.iaload, 1) := by decide +kernel
theorem dL_law_280 : decode code 280 = .ok (.aload_n 0, 1) := by decide +kernel
theorem dL_law_281 : decode code 281 = .ok (.iload_n 3, 1) := by decide +kernel
theorem dL_law_282 : decode code 282 = .ok (.iconst 2, 1) := by decide +kernel
theorem dL_law_283 : decode code 283 = .ok (.iadd, 1) := by decide +kernel
theorem dL_law_284 : decode code 284 = .ok (.iaload, 1) := by decide +kernel
theorem dL_law_285 : decode code 285 = .ok (.aload_n 0, 1) := by decide +kernel
theorem dL_law_286 : decode code 286 = .ok (.iload_n 3, 1) := by decide +kernel
theorem dL_law_287 : decode code 287 = .ok (.iconst 3, 1) := by decide +kernel
theorem dL_law_288 : decode code 288 = .ok (.iadd, 1) := by decide +kernel
theorem dL_law_289 : decode code 289 = .ok (.iaload, 1) := by decide +kernel
theorem dL_law_290 : decode code 290 = .ok (.invokevirtual 31, 3) := by decide +kernel
theorem dL_law_293 : decode code 293 = .ok (.aload_n 2, 1) := by decide +kernel
theorem dL_law_294 : decode code 294 = .ok (.aload_n 0, 1) := by decide +kernel
theorem dL_law_295 : decode code 295 = .ok (.iload_n 3, 1) := by decide +kernel
theorem dL_law_296 : decode code 296 = .ok (.iconst 1, 1) := by decide +kernel
theorem dL_law_297 : decode code 297 = .ok (.iadd, 1) := by decide +kernel
theorem dL_law_298 : decode code 298 = .ok (.iaload, 1) := by decide +kernel
theorem dL_law_299 : decode code 299 = .ok (.aload_n 0, 1) := by decide +kernel
theorem dL_law_300 : decode code 300 = .ok (.iload_n 3, 1) := by decide +kernel
theorem dL_law_301 : decode code 301 = .ok (.iconst 2, 1) := by decide +kernel
theorem dL_law_302 : decode code 302 = .ok (.iadd, 1) := by decide +kernel
theorem dL_law_303 : decode code 303 = .ok (.iaload, 1) := by decide +kernel
theorem dL_law_304 : decode code 304 = .ok (.aload_n 0, 1) := by decide +kernel
theorem dL_law_305 : decode code 305 = .ok (.iload_n 3, 1) := by decide +kernel
theorem dL_law_306 : decode code 306 = .ok (.iconst 3, 1) := by decide +kernel
theorem dL_law_307 : decode code 307 = .ok (.iadd, 1) := by decide +kernel
theorem dL_law_308 : decode code 308 = .ok (.iaload, 1) := by decide +kernel
theorem dL_law_309 : decode code 309 = .ok (.invokevirtual 34, 3) := by decide +kernel
theorem dL_law_312 : decode code 312 = .ok (.if_icmp .eq 789, 3) := by decide +kernel
theorem dL_law_315 : decode code 315 = .ok (.iconst 0, 1) := by decide +kernel
theorem dL_law_316 : decode code 316 = .ok (.ireturn, 1) := by decide +kernel
theorem dL_law_317 : decode code 317 = .ok (.aload_n 1, 1) := by decide +kernel
theorem dL_law_318 : decode code 318 = .ok (.aload_n 0, 1) := by decide +kernel
theorem dL_law_319 : decode code 319 = .ok (.iload_n 3, 1) := by decide +kernel
theorem dL_law_320 : decode code 320 = .ok (.iconst 1, 1) := by decide +kernel
theorem dL_law_321 : decode code 321 = .ok (.iadd, 1) := by decide +kernel
theorem dL_law_322 : decode code 322 = .ok (.iaload, 1) := by decide +kernel
theorem dL_law_323 : decode code 323 = .ok (.aload_n 0, 1) := by decide +kernel
theorem dL_law_324 : decode code 324 = .ok (.iload_n 3, 1) := by decide +kernel
theorem dL_law_325 : decode code 325 = .ok (.iconst 2, 1) := by decide +kernel
theorem dL_law_326 : decode code 326 = .ok (.iadd, 1) := by decide +kernel
theorem dL_law_327 : decode code 327 = .ok (.iaload, 1) := by decide +kernel
theorem dL_law_328 : decode code 328 = .ok (.aload_n 0, 1) := by decide +kernel
theorem dL_law_329 : decode code 329 = .ok (.iload_n 3, 1) := by decide +kernel
theorem dL_law_330 : decode code 330 = .ok (.iconst 3, 1) := by decide +kernel
theorem dL_law_331 : decode code 331 = .ok (.iadd, 1) := by decide +kernel
theorem dL_law_332 : decode code 332 = .ok (.iaload, 1) := by decide +kernel
theorem dL_law_333 : decode code 333 = .ok (.invokevirtual 35, 3) := by decide +kernel
theorem dL_law_336 : decode code 336 = .ok (.aload_n 2, 1) := by decide +kernel
theorem dL_law_337 : decode code 337 = .ok (.aload_n 0, 1) := by decide +kernel
theorem dL_law_338 : decode code 338 = .ok (.iload_n 3, 1) := by decide +kernel
theorem dL_law_339 : decode code 339 = .ok (.iconst 1, 1) := by decide +kernel
theorem dL_law_340 : decode code 340 = .ok (.iadd, 1) := by decide +kernel
theorem dL_law_341 : decode code 341 = .ok (.iaload, 1) := by decide +kernel
theorem dL_law_342 : decode code 342 = .ok (.aload_n 0, 1) := by decide +kernel
theorem dL_law_343 : decode code 343 = .ok (.iload_n 3, 1) := by decide +kernel
theorem dL_law_344 : decode code 344 = .ok (.iconst 2, 1) := by decide +kernel
theorem dL_law_345 : decode code 345 = .ok (.iadd, 1) := by decide +kernel
theorem dL_law_346 : decode code 346 = .ok (.iaload, 1) := by decide +kernel
theorem dL_law_347 : decode code 347 = .ok (.aload_n 0, 1) := by decide +kernel
theorem dL_law_348 : decode code 348 = .ok (.iload_n 3, 1) := by decide +kernel
theorem dL_law_349 : decode code 349 = .ok (.iconst 3, 1) := by decide +kernel
theorem dL_law_350 : decode code 350 = .ok (.iadd, 1) := by decide +kernel
theorem dL_law_351 : decode code 351 = .ok (.iaload, 1) := by decide +kernel
theorem dL_law_352 : decode code 352 = .ok (.invokevirtual 39, 3) := by decide +kernel
theorem dL_law_355 : decode code 355 = .ok (.if_icmp .eq 746, 3) := by decide +kernel
theorem dL_law_358 : decode code 358 = .ok (.iconst 0, 1) := by decide +kernel
theorem dL_law_359 : decode code 359 = .ok (.ireturn, 1) := by decide +kernel
theorem dL_law_360 : decode code 360 = .ok (.aload_n 1, 1) := by decide +kernel
theorem dL_law_361 : decode code 361 = .ok (.aload_n 0, 1) := by decide +kernel
theorem dL_law_362 : decode code 362 = .ok (.iload_n 3, 1) := by decide +kernel
theorem dL_law_363 : decode code 363 = .ok (.iconst 1, 1) := by decide +kernel
theorem dL_law_364 : decode code 364 = .ok (.iadd, 1) := by decide +kernel
theorem dL_law_365 : decode code 365 = .ok (.iaload, 1) := by decide +kernel
theorem dL_law_366 : decode code 366 = .ok (.aload_n 0, 1) := by decide +kernel
theorem dL_law_367 : decode code 367 = .ok (.iload_n 3, 1) := by decide +kernel
theorem dL_law_368 : decode code 368 = .ok (.iconst 2, 1) := by decide +kernel
theorem dL_law_369 : decode code 369 = .ok (.iadd, 1) := by decide +kernel
theorem dL_law_370 : decode code 370 = .ok (.iaload, 1) := by decide +kernel
theorem dL_law_371 : decode code 371 = .ok (.aload_n 0, 1) := by decide +kernel
theorem dL_law_372 : decode code 372 = .ok (.iload_n 3, 1) := by decide +kernel
theorem dL_law_373 : decode code 373 = .ok (.iconst 3, 1) := by decide +kernel
theorem dL_law_374 : decode code 374 = .ok (.iadd, 1) := by decide +kernel
theorem dL_law_375 : decode code 375 = .ok (.iaload, 1) := by decide +kernel
theorem dL_law_376 : decode code 376 = .ok (.invokevirtual 40, 3) := by decide +kernel
theorem dL_law_379 : decode code 379 = .ok (.aload_n 2, 1) := by decide +kernel
theorem dL_law_380 : decode code 380 = .ok (.aload_n 0, 1) := by decide +kernel
theorem dL_law_381 : decode code 381 = .ok (.iload_n 3, 1) := by decide +kernel
theorem dL_law_382 : decode code 382 = .ok (.iconst 1, 1) := by decide +kernel
theorem dL_law_383 : decode code 383 = .ok (.iadd, 1) := by decide +kernel
theorem dL_law_384 : decode code 384 = .ok (.iaload, 1) := by decide +kernel
theorem dL_law_385 : decode code 385 = .ok (.aload_n 0, 1) := by decide +kernel
theorem dL_law_386 : decode code 386 = .ok (.iload_n 3, 1) := by decide +kernel
theorem dL_law_387 : decode code 387 = .ok (.iconst 2, 1) := by decide +kernel
theorem dL_law_388 : decode code 388 = .ok (.iadd, 1) := by decide +kernel
theorem dL_law_389 : decode code 389 = .ok (.iaload, 1) := by decide +kernel
theorem dL_law_390 : decode code 390 = .ok (.aload_n 0, 1) := by decide +kernel
theorem dL_law_391 : decode code 391 = .ok (.iload_n 3, 1) := by decide +kernel
theorem dL_law_392 : decode code 392 = .ok (.iconst 3, 1) := by decide +kernel
theorem dL_law_393 : decode code 393 = .ok (.iadd, 1) := by decide +kernel
theorem dL_law_394 : decode code 394 = .ok (.iaload, 1) := by decide +kernel
theorem dL_law_395 : decode code 395 = .ok (.invokevirtual 43, 3) := by decide +kernel
theorem dL_law_398 : decode code 398 = .ok (.if_icmp .eq 703, 3) := by decide +kernel
theorem dL_law_401 : decode code 401 = .ok (.iconst 0, 1) := by decide +kernel
theorem dL_law_402 : decode code 402 = .ok (.ireturn, 1) := by decide +kernel
theorem dL_law_403 : decode code 403 = .ok (.aload_n 1, 1) := by decide +kernel
theorem dL_law_404 : decode code 404 = .ok (.aload_n 0, 1) := by decide +kernel
theorem dL_law_405 : decode code 405 = .ok (.iload_n 3, 1) := by decide +kernel
theorem dL_law_406 : decode code 406 = .ok (.iconst 1, 1) := by decide +kernel
theorem dL_law_407 : decode code 407 = .ok (.iadd, 1) := by decide +kernel
theorem dL_law_408 : decode code 408 = .ok (.iaload, 1) := by decide +kernel
theorem dL_law_409 : decode code 409 = .ok (.aload_n 0, 1) := by decide +kernel
theorem dL_law_410 : decode code 410 = .ok (.iload_n 3, 1) := by decide +kernel
theorem dL_law_411 : decode code 411 = .ok (.iconst 2, 1) := by decide +kernel
theorem dL_law_412 : decode code 412 = .ok (.iadd, 1) := by decide +kernel
theorem dL_law_413 : decode code 413 = .ok (.iaload, 1) := by decide +kernel
theorem dL_law_414 : decode code 414 = .ok (.invokevirtual 44, 3) := by decide +kernel
theorem dL_law_417 : decode code 417 = .ok (.aload_n 2, 1) := by decide +kernel
theorem dL_law_418 : decode code 418 = .ok (.aload_n 0, 1) := by decide +kernel
theorem dL_law_419 : decode code 419 = .ok (.iload_n 3, 1) := by decide +kernel
theorem dL_law_420 : decode code 420 = .ok (.iconst 1, 1) := by decide +kernel
theorem dL_law_421 : decode code 421 = .ok (.iadd, 1) := by decide +kernel
theorem dL_law_422 : decode code 422 = .ok (.iaload, 1) := by decide +kernel
theorem dL_law_423 : decode code 423 = .ok (.aload_n 0, 1) := by decide +kernel
theorem dL_law_424 : decode code 424 = .ok (.iload_n 3, 1) := by decide +kernel
theorem dL_law_425 : decode code 425 = .ok (.iconst 2, 1) := by decide +kernel
theorem dL_law_426 : decode code 426 = .ok (.iadd, 1) := by decide +kernel
theorem dL_law_427 : decode code 427 = .ok (.iaload, 1) := by decide +kernel
theorem dL_law_428 : decode code 428 = .ok (.invokevirtual 48, 3) := by decide +kernel
theorem dL_law_431 : decode code 431 = .ok (.lcmp, 1) := by decide +kernel
theorem dL_law_432 : decode code 432 = .ok (.ifCond .eq 669, 3) := by decide +kernel
theorem dL_law_435 : decode code 435 = .ok (.iconst 0, 1) := by decide +kernel
theorem dL_law_436 : decode code 436 = .ok (.ireturn, 1) := by decide +kernel
theorem dL_law_437 : decode code 437 = .ok (.aload_n 1, 1) := by decide +kernel
theorem dL_law_438 : decode code 438 = .ok (.aload_n 0, 1) := by decide +kernel
theorem dL_law_439 : decode code 439 = .ok (.iload_n 3, 1) := by decide +kernel
theorem dL_law_440 : decode code 440 = .ok (.iconst 1, 1) := by decide +kernel
theorem dL_law_441 : decode code 441 = .ok (.iadd, 1) := by decide +kernel
theorem dL_law_442 : decode code 442 = .ok (.iaload, 1) := by decide +kernel
theorem dL_law_443 : decode code 443 = .ok (.aload_n 0, 1) := by decide +kernel
theorem dL_law_444 : decode code 444 = .ok (.iload_n 3, 1) := by decide +kernel
theorem dL_law_445 : decode code 445 = .ok (.iconst 2, 1) := by decide +kernel
theorem dL_law_446 : decode code 446 = .ok (.iadd, 1) := by decide +kernel
theorem dL_law_447 : decode code 447 = .ok (.iaload, 1) := by decide +kernel
theorem dL_law_448 : decode code 448 = .ok (.aload_n 0, 1) := by decide +kernel
theorem dL_law_449 : decode code 449 = .ok (.iload_n 3, 1) := by decide +kernel
theorem dL_law_450 : decode code 450 = .ok (.iconst 3, 1) := by decide +kernel
theorem dL_law_451 : decode code 451 = .ok (.iadd, 1) := by decide +kernel
theorem dL_law_452 : decode code 452 = .ok (.iaload, 1) := by decide +kernel
theorem dL_law_453 : decode code 453 = .ok (.aload_n 0, 1) := by decide +kernel
theorem dL_law_454 : decode code 454 = .ok (.iload_n 3, 1) := by decide +kernel
theorem dL_law_455 : decode code 455 = .ok (.iconst 4, 1) := by decide +kernel
theorem dL_law_456 : decode code 456 = .ok (.iadd, 1) := by decide +kernel
theorem dL_law_457 : decode code 457 = .ok (.iaload, 1) := by decide +kernel
theorem dL_law_458 : decode code 458 = .ok (.aload_n 0, 1) := by decide +kernel
theorem dL_law_459 : decode code 459 = .ok (.iload_n 3, 1) := by decide +kernel
theorem dL_law_460 : decode code 460 = .ok (.iconst 5, 1) := by decide +kernel
theorem dL_law_461 : decode code 461 = .ok (.iadd, 1) := by decide +kernel
theorem dL_law_462 : decode code 462 = .ok (.iaload, 1) := by decide +kernel
theorem dL_law_463 : decode code 463 = .ok (.aload_n 0, 1) := by decide +kernel
theorem dL_law_464 : decode code 464 = .ok (.iload_n 3, 1) := by decide +kernel
theorem dL_law_465 : decode code 465 = .ok (.bipush 6, 2) := by decide +kernel
theorem dL_law_467 : decode code 467 = .ok (.iadd, 1) := by decide +kernel
theorem dL_law_468 : decode code 468 = .ok (.iaload, 1) := by decide +kernel
theorem dL_law_469 : decode code 469 = .ok (.invokevirtual 49, 3) := by decide +kernel
theorem dL_law_472 : decode code 472 = .ok (.aload_n 2, 1) := by decide +kernel
theorem dL_law_473 : decode code 473 = .ok (.aload_n 0, 1) := by decide +kernel
theorem dL_law_474 : decode code 474 = .ok (.iload_n 3, 1) := by decide +kernel
theorem dL_law_475 : decode code 475 = .ok (.iconst 1, 1) := by decide +kernel
theorem dL_law_476 : decode code 476 = .ok (.iadd, 1) := by decide +kernel
theorem dL_law_477 : decode code 477 = .ok (.iaload, 1) := by decide +kernel
theorem dL_law_478 : decode code 478 = .ok (.aload_n 0, 1) := by decide +kernel
theorem dL_law_479 : decode code 479 = .ok (.iload_n 3, 1) := by decide +kernel
theorem dL_law_480 : decode code 480 = .ok (.iconst 2, 1) := by decide +kernel
theorem dL_law_481 : decode code 481 = .ok (.iadd, 1) := by decide +kernel
theorem dL_law_482 : decode code 482 = .ok (.iaload, 1) := by decide +kernel
theorem dL_law_483 : decode code 483 = .ok (.aload_n 0, 1) := by decide +kernel
theorem dL_law_484 : decode code 484 = .ok (.iload_n 3, 1) := by decide +kernel
theorem dL_law_485 : decode code 485 = .ok (.iconst 3, 1) := by decide +kernel
theorem dL_law_486 : decode code 486 = .ok (.iadd, 1) := by decide +kernel
theorem dL_law_487 : decode code 487 = .ok (.iaload, 1) := by decide +kernel
theorem dL_law_488 : decode code 488 = .ok (.aload_n 0, 1) := by decide +kernel
theorem dL_law_489 : decode code 489 = .ok (.iload_n 3, 1) := by decide +kernel
theorem dL_law_490 : decode code 490 = .ok (.iconst 4, 1) := by decide +kernel
theorem dL_law_491 : decode code 491 = .ok (.iadd, 1) := by decide +kernel
theorem dL_law_492 : decode code 492 = .ok (.iaload, 1) := by decide +kernel
theorem dL_law_493 : decode code 493 = .ok (.aload_n 0, 1) := by decide +kernel
theorem dL_law_494 : decode code 494 = .ok (.iload_n 3, 1) := by decide +kernel
theorem dL_law_495 : decode code 495 = .ok (.iconst 5, 1) := by decide +kernel
theorem dL_law_496 : decode code 496 = .ok (.iadd, 1) := by decide +kernel
theorem dL_law_497 : decode code 497 = .ok (.iaload, 1) := by decide +kernel
theorem dL_law_498 : decode code 498 = .ok (.aload_n 0, 1) := by decide +kernel
theorem dL_law_499 : decode code 499 = .ok (.iload_n 3, 1) := by decide +kernel
theorem dL_law_500 : decode code 500 = .ok (.bipush 6, 2) := by decide +kernel
theorem dL_law_502 : decode code 502 = .ok (.iadd, 1) := by decide +kernel
theorem dL_law_503 : decode code 503 = .ok (.iaload, 1) := by decide +kernel
theorem dL_law_504 : decode code 504 = .ok (.invokevirtual 53, 3) := by decide +kernel
theorem dL_law_507 : decode code 507 = .ok (.if_icmp .eq 594, 3) := by decide +kernel
theorem dL_law_510 : decode code 510 = .ok (.iconst 0, 1) := by decide +kernel
theorem dL_law_511 : decode code 511 = .ok (.ireturn, 1) := by decide +kernel
theorem dL_law_512 : decode code 512 = .ok (.aload_n 1, 1) := by decide +kernel
theorem dL_law_513 : decode code 513 = .ok (.aload_n 0, 1) := by decide +kernel
theorem dL_law_514 : decode code 514 = .ok (.iload_n 3, 1) := by decide +kernel
theorem dL_law_515 : decode code 515 = .ok (.iconst 1, 1) := by decide +kernel
theorem dL_law_516 : decode code 516 = .ok (.iadd, 1) := by decide +kernel
theorem dL_law_517 : decode code 517 = .ok (.iaload, 1) := by decide +kernel
theorem dL_law_518 : decode code 518 = .ok (.invokevirtual 54, 3) := by decide +kernel
theorem dL_law_521 : decode code 521 = .ok (.aload_n 2, 1) := by decide +kernel
theorem dL_law_522 : decode code 522 = .ok (.aload_n 0, 1) := by decide +kernel
theorem dL_law_523 : decode code 523 = .ok (.iload_n 3, 1) := by decide +kernel
theorem dL_law_524 : decode code 524 = .ok (.iconst 1, 1) := by decide +kernel
theorem dL_law_525 : decode code 525 = .ok (.iadd, 1) := by decide +kernel
theorem dL_law_526 : decode code 526 = .ok (.iaload, 1) := by decide +kernel
theorem dL_law_527 : decode code 527 = .ok (.invokevirtual 58, 3) := by decide +kernel
theorem dL_law_530 : decode code 530 = .ok (.if_icmp .eq 571, 3) := by decide +kernel
theorem dL_law_533 : decode code 533 = .ok (.iconst 0, 1) := by decide +kernel
theorem dL_law_534 : decode code 534 = .ok (.ireturn, 1) := by decide +kernel
theorem dL_law_535 : decode code 535 = .ok (.aload_n 1, 1) := by decide +kernel
theorem dL_law_536 : decode code 536 = .ok (.aload_n 0, 1) := by decide +kernel
theorem dL_law_537 : decode code 537 = .ok (.iload_n 3, 1) := by decide +kernel
theorem dL_law_538 : decode code 538 = .ok (.iconst 1, 1) := by decide +kernel
theorem dL_law_539 : decode code 539 = .ok (.iadd, 1) := by decide +kernel
theorem dL_law_540 : decode code 540 = .ok (.iaload, 1) := by decide +kernel
theorem dL_law_541 : decode code 541 = .ok (.aload_n 0, 1) := by decide +kernel
theorem dL_law_542 : decode code 542 = .ok (.iload_n 3, 1) := by decide +kernel
theorem dL_law_543 : decode code 543 = .ok (.iconst 2, 1) := by decide +kernel
theorem dL_law_544 : decode code 544 = .ok (.iadd, 1) := by decide +kernel
theorem dL_law_545 : decode code 545 = .ok (.iaload, 1) := by decide +kernel
theorem dL_law_546 : decode code 546 = .ok (.invokevirtual 59, 3) := by decide +kernel
theorem dL_law_549 : decode code 549 = .ok (.aload_n 2, 1) := by decide +kernel
theorem dL_law_550 : decode code 550 = .ok (.aload_n 0, 1) := by decide +kernel
theorem dL_law_551 : decode code 551 = .ok (.iload_n 3, 1) := by decide +kernel
theorem dL_law_552 : decode code 552 = .ok (.iconst 1, 1) := by decide +kernel
theorem dL_law_553 : decode code 553 = .ok (.iadd, 1) := by decide +kernel
theorem dL_law_554 : decode code 554 = .ok (.iaload, 1) := by decide +kernel
theorem dL_law_555 : decode code 555 = .ok (.aload_n 0, 1) := by decide +kernel
theorem dL_law_556 : decode code 556 = .ok (.iload_n 3, 1) := by decide +kernel
theorem dL_law_557 : decode code 557 = .ok (.iconst 2, 1) := by decide +kernel
theorem dL_law_558 : decode code 558 = .ok (.iadd, 1) := by decide +kernel
theorem dL_law_559 : decode code 559 = .ok (.iaload, 1) := by decide +kernel
theorem dL_law_560 : decode code 560 = .ok (.invokevirtual 63, 3) := by decide +kernel
theorem dL_law_563 : decode code 563 = .ok (.if_icmp .eq 538, 3) := by decide +kernel
theorem dL_law_566 : decode code 566 = .ok (.iconst 0, 1) := by decide +kernel
theorem dL_law_567 : decode code 567 = .ok (.ireturn, 1) := by decide +kernel
theorem dL_law_568 : decode code 568 = .ok (.aload_n 1, 1) := by decide +kernel
theorem dL_law_569 : decode code 569 = .ok (.aload_n 0, 1) := by decide +kernel
theorem dL_law_570 : decode code 570 = .ok (.iload_n 3, 1) := by decide +kernel
theorem dL_law_571 : decode code 571 = .ok (.iconst 1, 1) := by decide +kernel
theorem dL_law_572 : decode code 572 = .ok (.iadd, 1) := by decide +kernel
theorem dL_law_573 : decode code 573 = .ok (.iaload, 1) := by decide +kernel
theorem dL_law_574 : decode code 574 = .ok (.invokevirtual 64, 3) := by decide +kernel
theorem dL_law_577 : decode code 577 = .ok (.aload_n 2, 1) := by decide +kernel
theorem dL_law_578 : decode code 578 = .ok (.aload_n 0, 1) := by decide +kernel
theorem dL_law_579 : decode code 579 = .ok (.iload_n 3, 1) := by decide +kernel
theorem dL_law_580 : decode code 580 = .ok (.iconst 1, 1) := by decide +kernel
theorem dL_law_581 : decode code 581 = .ok (.iadd, 1) := by decide +kernel
theorem dL_law_582 : decode code 582 = .ok (.iaload, 1) := by decide +kernel
theorem dL_law_583 : decode code 583 = .ok (.invokevirtual 68, 3) := by decide +kernel
theorem dL_law_586 : decode code 586 = .ok (.if_icmp .eq 515, 3) := by decide +kernel
theorem dL_law_589 : decode code 589 = .ok (.iconst 0, 1) := by decide +kernel
theorem dL_law_590 : decode code 590 = .ok (.ireturn, 1) := by decide +kernel
theorem dL_law_591 : decode code 591 = .ok (.aload_n 1, 1) := by decide +kernel
theorem dL_law_592 : decode code 592 = .ok (.aload_n 0, 1) := by decide +kernel
theorem dL_law_593 : decode code 593 = .ok (.iload_n 3, 1) := by decide +kernel
theorem dL_law_594 : decode code 594 = .ok (.iconst 1, 1) := by decide +kernel
theorem dL_law_595 : decode code 595 = .ok (.iadd, 1) := by decide +kernel
theorem dL_law_596 : decode code 596 = .ok (.iaload, 1) := by decide +kernel
theorem dL_law_597 : decode code 597 = .ok (.aload_n 0, 1) := by decide +kernel
theorem dL_law_598 : decode code 598 = .ok (.iload_n 3, 1) := by decide +kernel
theorem dL_law_599 : decode code 599 = .ok (.iconst 2, 1) := by decide +kernel
theorem dL_law_600 : decode code 600 = .ok (.iadd, 1) := by decide +kernel
theorem dL_law_601 : decode code 601 = .ok (.iaload, 1) := by decide +kernel
theorem dL_law_602 : decode code 602 = .ok (.invokevirtual 69, 3) := by decide +kernel
theorem dL_law_605 : decode code 605 = .ok (.aload_n 2, 1) := by decide +kernel
theorem dL_law_606 : decode code 606 = .ok (.aload_n 0, 1) := by decide +kernel
theorem dL_law_607 : decode code 607 = .ok (.iload_n 3, 1) := by decide +kernel
theorem dL_law_608 : decode code 608 = .ok (.iconst 1, 1) := by decide +kernel
theorem dL_law_609 : decode code 609 = .ok (.iadd, 1) := by decide +kernel
theorem dL_law_610 : decode code 610 = .ok (.iaload, 1) := by decide +kernel
theorem dL_law_611 : decode code 611 = .ok (.aload_n 0, 1) := by decide +kernel
theorem dL_law_612 : decode code 612 = .ok (.iload_n 3, 1) := by decide +kernel
theorem dL_law_613 : decode code 613 = .ok (.iconst 2, 1) := by decide +kernel
theorem dL_law_614 : decode code 614 = .ok (.iadd, 1) := by decide +kernel
theorem dL_law_615 : decode code 615 = .ok (.iaload, 1) := by decide +kernel
theorem dL_law_616 : decode code 616 = .ok (.invokevirtual 72, 3) := by decide +kernel
theorem dL_law_619 : decode code 619 = .ok (.if_icmp .eq 482, 3) := by decide +kernel
theorem dL_law_622 : decode code 622 = .ok (.iconst 0, 1) := by decide +kernel
theorem dL_law_623 : decode code 623 = .ok (.ireturn, 1) := by decide +kernel
theorem dL_law_624 : decode code 624 = .ok (.aload_n 1, 1) := by decide +kernel
theorem dL_law_625 : decode code 625 = .ok (.aload_n 0, 1) := by decide +kernel
theorem dL_law_626 : decode code 626 = .ok (.iload_n 3, 1) := by decide +kernel
theorem dL_law_627 : decode code 627 = .ok (.iconst 1, 1) := by decide +kernel
theorem dL_law_628 : decode code 628 = .ok (.iadd, 1) := by decide +kernel
theorem dL_law_629 : decode code 629 = .ok (.iaload, 1) := by decide +kernel
theorem dL_law_630 : decode code 630 = .ok (.aload_n 0, 1) := by decide +kernel
theorem dL_law_631 : decode code 631 = .ok (.iload_n 3, 1) := by decide +kernel
theorem dL_law_632 : decode code 632 = .ok (.iconst 2, 1) := by decide +kernel
theorem dL_law_633 : decode code 633 = .ok (.iadd, 1) := by decide +kernel
theorem dL_law_634 : decode code 634 = .ok (.iaload, 1) := by decide +kernel
theorem dL_law_635 : decode code 635 = .ok (.invokevirtual 73, 3) := by decide +kernel
theorem dL_law_638 : decode code 638 = .ok (.aload_n 2, 1) := by decide +kernel
theorem dL_law_639 : decode code 639 = .ok (.aload_n 0, 1) := by decide +kernel
theorem dL_law_640 : decode code 640 = .ok (.iload_n 3, 1) := by decide +kernel
theorem dL_law_641 : decode code 641 = .ok (.iconst 1, 1) := by decide +kernel
theorem dL_law_642 : decode code 642 = .ok (.iadd, 1) := by decide +kernel
theorem dL_law_643 : decode code 643 = .ok (.iaload, 1) := by decide +kernel
theorem dL_law_644 : decode code 644 = .ok (.aload_n 0, 1) := by decide +kernel
theorem dL_law_645 : decode code 645 = .ok (.iload_n 3, 1) := by decide +kernel
theorem dL_law_646 : decode code 646 = .ok (.iconst 2, 1) := by decide +kernel
theorem dL_law_647 : decode code 647 = .ok (.iadd, 1) := by decide +kernel
theorem dL_law_648 : decode code 648 = .ok (.iaload, 1) := by decide +kernel
theorem dL_law_649 : decode code 649 = .ok (.invokevirtual 76, 3) := by decide +kernel
theorem dL_law_652 : decode code 652 = .ok (.lcmp, 1) := by decide +kernel
theorem dL_law_653 : decode code 653 = .ok (.ifCond .eq 448, 3) := by decide +kernel
theorem dL_law_656 : decode code 656 = .ok (.iconst 0, 1) := by decide +kernel
theorem dL_law_657 : decode code 657 = .ok (.ireturn, 1) := by decide +kernel
theorem dL_law_658 : decode code 658 = .ok (.aload_n 1, 1) := by decide +kernel
theorem dL_law_659 : decode code 659 = .ok (.invokevirtual 77, 3) := by decide +kernel
theorem dL_law_662 : decode code 662 = .ok (.aload_n 2, 1) := by decide +kernel
theorem dL_law_663 : decode code 663 = .ok (.invokevirtual 81, 3) := by decide +kernel
theorem dL_law_666 : decode code 666 = .ok (.if_icmp .eq 435, 3) := by decide +kernel
theorem dL_law_669 : decode code 669 = .ok (.iconst 0, 1) := by decide +kernel
theorem dL_law_670 : decode code 670 = .ok (.ireturn, 1) := by decide +kernel
theorem dL_law_671 : decode code 671 = .ok (.aload_n 1, 1) := by decide +kernel
theorem dL_law_672 : decode code 672 = .ok (.aload_n 0, 1) := by decide +kernel
theorem dL_law_673 : decode code 673 = .ok (.iload_n 3, 1) := by decide +kernel
theorem dL_law_674 : decode code 674 = .ok (.iconst 1, 1) := by decide +kernel
theorem dL_law_675 : decode code 675 = .ok (.iadd, 1) := by decide +kernel
theorem dL_law_676 : decode code 676 = .ok (.iaload, 1) := by decide +kernel
theorem dL_law_677 : decode code 677 = .ok (.invokevirtual 82, 3) := by decide +kernel
theorem dL_law_680 : decode code 680 = .ok (.aload_n 2, 1) := by decide +kernel
theorem dL_law_681 : decode code 681 = .ok (.aload_n 0, 1) := by decide +kernel
theorem dL_law_682 : decode code 682 = .ok (.iload_n 3, 1) := by decide +kernel
theorem dL_law_683 : decode code 683 = .ok (.iconst 1, 1) := by decide +kernel
theorem dL_law_684 : decode code 684 = .ok (.iadd, 1) := by decide +kernel
theorem dL_law_685 : decode code 685 = .ok (.iaload, 1) := by decide +kernel
theorem dL_law_686 : decode code 686 = .ok (.invokevirtual 85, 3) := by decide +kernel
theorem dL_law_689 : decode code 689 = .ok (.if_icmp .eq 412, 3) := by decide +kernel
theorem dL_law_692 : decode code 692 = .ok (.iconst 0, 1) := by decide +kernel
theorem dL_law_693 : decode code 693 = .ok (.ireturn, 1) := by decide +kernel
theorem dL_law_694 : decode code 694 = .ok (.aload_n 1, 1) := by decide +kernel
theorem dL_law_695 : decode code 695 = .ok (.aload_n 0, 1) := by decide +kernel
theorem dL_law_696 : decode code 696 = .ok (.iload_n 3, 1) := by decide +kernel
theorem dL_law_697 : decode code 697 = .ok (.iconst 1, 1) := by decide +kernel
theorem dL_law_698 : decode code 698 = .ok (.iadd, 1) := by decide +kernel
theorem dL_law_699 : decode code 699 = .ok (.iaload, 1) := by decide +kernel
theorem dL_law_700 : decode code 700 = .ok (.aload_n 0, 1) := by decide +kernel
theorem dL_law_701 : decode code 701 = .ok (.iload_n 3, 1) := by decide +kernel
theorem dL_law_702 : decode code 702 = .ok (.iconst 2, 1) := by decide +kernel
theorem dL_law_703 : decode code 703 = .ok (.iadd, 1) := by decide +kernel
theorem dL_law_704 : decode code 704 = .ok (.iaload, 1) := by decide +kernel
theorem dL_law_705 : decode code 705 = .ok (.invokevirtual 86, 3) := by decide +kernel
theorem dL_law_708 : decode code 708 = .ok (.aload_n 2, 1) := by decide +kernel
theorem dL_law_709 : decode code 709 = .ok (.aload_n 0, 1) := by decide +kernel
theorem dL_law_710 : decode code 710 = .ok (.iload_n 3, 1) := by decide +kernel
theorem dL_law_711 : decode code 711 = .ok (.iconst 1, 1) := by decide +kernel
theorem dL_law_712 : decode code 712 = .ok (.iadd, 1) := by decide +kernel
theorem dL_law_713 : decode code 713 = .ok (.iaload, 1) := by decide +kernel
theorem dL_law_714 : decode code 714 = .ok (.aload_n 0, 1) := by decide +kernel
theorem dL_law_715 : decode code 715 = .ok (.iload_n 3, 1) := by decide +kernel
theorem dL_law_716 : decode code 716 = .ok (.iconst 2, 1) := by decide +kernel
theorem dL_law_717 : decode code 717 = .ok (.iadd, 1) := by decide +kernel
theorem dL_law_718 : decode code 718 = .ok (.iaload, 1) := by decide +kernel
theorem dL_law_719 : decode code 719 = .ok (.invokevirtual 90, 3) := by decide +kernel
theorem dL_law_722 : decode code 722 = .ok (.if_icmp .eq 379, 3) := by decide +kernel
theorem dL_law_725 : decode code 725 = .ok (.iconst 0, 1) := by decide +kernel
theorem dL_law_726 : decode code 726 = .ok (.ireturn, 1) := by decide +kernel
theorem dL_law_727 : decode code 727 = .ok (.aload_n 1, 1) := by decide +kernel
theorem dL_law_728 : decode code 728 = .ok (.aload_n 0, 1) := by decide +kernel
theorem dL_law_729 : decode code 729 = .ok (.iload_n 3, 1) := by decide +kernel
theorem dL_law_730 : decode code 730 = .ok (.iconst 1, 1) := by decide +kernel
theorem dL_law_731 : decode code 731 = .ok (.iadd, 1) := by decide +kernel
theorem dL_law_732 : decode code 732 = .ok (.iaload, 1) := by decide +kernel
theorem dL_law_733 : decode code 733 = .ok (.invokevirtual 91, 3) := by decide +kernel
theorem dL_law_736 : decode code 736 = .ok (.aload_n 2, 1) := by decide +kernel
theorem dL_law_737 : decode code 737 = .ok (.aload_n 0, 1) := by decide +kernel
theorem dL_law_738 : decode code 738 = .ok (.iload_n 3, 1) := by decide +kernel
theorem dL_law_739 : decode code 739 = .ok (.iconst 1, 1) := by decide +kernel
theorem dL_law_740 : decode code 740 = .ok (.iadd, 1) := by decide +kernel
theorem dL_law_741 : decode code 741 = .ok (.iaload, 1) := by decide +kernel
theorem dL_law_742 : decode code 742 = .ok (.invokevirtual 94, 3) := by decide +kernel
theorem dL_law_745 : decode code 745 = .ok (.if_icmp .eq 356, 3) := by decide +kernel
theorem dL_law_748 : decode code 748 = .ok (.iconst 0, 1) := by decide +kernel
theorem dL_law_749 : decode code 749 = .ok (.ireturn, 1) := by decide +kernel
theorem dL_law_750 : decode code 750 = .ok (.aload_n 1, 1) := by decide +kernel
theorem dL_law_751 : decode code 751 = .ok (.aload_n 0, 1) := by decide +kernel
theorem dL_law_752 : decode code 752 = .ok (.iload_n 3, 1) := by decide +kernel
theorem dL_law_753 : decode code 753 = .ok (.iconst 1, 1) := by decide +kernel
theorem dL_law_754 : decode code 754 = .ok (.iadd, 1) := by decide +kernel
theorem dL_law_755 : decode code 755 = .ok (.iaload, 1) := by decide +kernel
theorem dL_law_756 : decode code 756 = .ok (.aload_n 0, 1) := by decide +kernel
theorem dL_law_757 : decode code 757 = .ok (.iload_n 3, 1) := by decide +kernel
theorem dL_law_758 : decode code 758 = .ok (.iconst 2, 1) := by decide +kernel
theorem dL_law_759 : decode code 759 = .ok (.iadd, 1) := by decide +kernel
theorem dL_law_760 : decode code 760 = .ok (.iaload, 1) := by decide +kernel
theorem dL_law_761 : decode code 761 = .ok (.invokevirtual 95, 3) := by decide +kernel
theorem dL_law_764 : decode code 764 = .ok (.aload_n 2, 1) := by decide +kernel
theorem dL_law_765 : decode code 765 = .ok (.aload_n 0, 1) := by decide +kernel
theorem dL_law_766 : decode code 766 = .ok (.iload_n 3, 1) := by decide +kernel
theorem dL_law_767 : decode code 767 = .ok (.iconst 1, 1) := by decide +kernel
theorem dL_law_768 : decode code 768 = .ok (.iadd, 1) := by decide +kernel
theorem dL_law_769 : decode code 769 = .ok (.iaload, 1) := by decide +kernel
theorem dL_law_770 : decode code 770 = .ok (.aload_n 0, 1) := by decide +kernel
theorem dL_law_771 : decode code 771 = .ok (.iload_n 3, 1) := by decide +kernel
theorem dL_law_772 : decode code 772 = .ok (.iconst 2, 1) := by decide +kernel
theorem dL_law_773 : decode code 773 = .ok (.iadd, 1) := by decide +kernel
theorem dL_law_774 : decode code 774 = .ok (.iaload, 1) := by decide +kernel
theorem dL_law_775 : decode code 775 = .ok (.invokevirtual 98, 3) := by decide +kernel
theorem dL_law_778 : decode code 778 = .ok (.if_icmp .eq 323, 3) := by decide +kernel
theorem dL_law_781 : decode code 781 = .ok (.iconst 0, 1) := by decide +kernel
theorem dL_law_782 : decode code 782 = .ok (.ireturn, 1) := by decide +kernel
theorem dL_law_783 : decode code 783 = .ok (.aload_n 1, 1) := by decide +kernel
theorem dL_law_784 : decode code 784 = .ok (.aload_n 0, 1) := by decide +kernel
theorem dL_law_785 : decode code 785 = .ok (.iload_n 3, 1) := by decide +kernel
theorem dL_law_786 : decode code 786 = .ok (.iconst 1, 1) := by decide +kernel
theorem dL_law_787 : decode code 787 = .ok (.iadd, 1) := by decide +kernel
theorem dL_law_788 : decode code 788 = .ok (.iaload, 1) := by decide +kernel
theorem dL_law_789 : decode code 789 = .ok (.aload_n 0, 1) := by decide +kernel
theorem dL_law_790 : decode code 790 = .ok (.iload_n 3, 1) := by decide +kernel
theorem dL_law_791 : decode code 791 = .ok (.iconst 2, 1) := by decide +kernel
theorem dL_law_792 : decode code 792 = .ok (.iadd, 1) := by decide +kernel
theorem dL_law_793 : decode code 793 = .ok (.iaload, 1) := by decide +kernel
theorem dL_law_794 : decode code 794 = .ok (.aload_n 0, 1) := by decide +kernel
theorem dL_law_795 : decode code 795 = .ok (.iload_n 3, 1) := by decide +kernel
theorem dL_law_796 : decode code 796 = .ok (.iconst 3, 1) := by decide +kernel
theorem dL_law_797 : decode code 797 = .ok (.iadd, 1) := by decide +kernel
theorem dL_law_798 : decode code 798 = .ok (.iaload, 1) := by decide +kernel
theorem dL_law_799 : decode code 799 = .ok (.invokevirtual 99, 3) := by decide +kernel
theorem dL_law_802 : decode code 802 = .ok (.aload_n 2, 1) := by decide +kernel
theorem dL_law_803 : decode code 803 = .ok (.aload_n 0, 1) := by decide +kernel
theorem dL_law_804 : decode code 804 = .ok (.iload_n 3, 1) := by decide +kernel
theorem dL_law_805 : decode code 805 = .ok (.iconst 1, 1) := by decide +kernel
theorem dL_law_806 : decode code 806 = .ok (.iadd, 1) := by decide +kernel
theorem dL_law_807 : decode code 807 = .ok (.iaload, 1) := by decide +kernel
theorem dL_law_808 : decode code 808 = .ok (.aload_n 0, 1) := by decide +kernel
theorem dL_law_809 : decode code 809 = .ok (.iload_n 3, 1) := by decide +kernel
theorem dL_law_810 : decode code 810 = .ok (.iconst 2, 1) := by decide +kernel
theorem dL_law_811 : decode code 811 = .ok (.iadd, 1) := by decide +kernel
theorem dL_law_812 : decode code 812 = .ok (.iaload, 1) := by decide +kernel
theorem dL_law_813 : decode code 813 = .ok (.aload_n 0, 1) := by decide +kernel
theorem dL_law_814 : decode code 814 = .ok (.iload_n 3, 1) := by decide +kernel
theorem dL_law_815 : decode code 815 = .ok (.iconst 3, 1) := by decide +kernel
theorem dL_law_816 : decode code 816 = .ok (.iadd, 1) := by decide +kernel
theorem dL_law_817 : decode code 817 = .ok (.iaload, 1) := by decide +kernel
theorem dL_law_818 : decode code 818 = .ok (.invokevirtual 103, 3) := by decide +kernel
theorem dL_law_821 : decode code 821 = .ok (.lcmp, 1) := by decide +kernel
theorem dL_law_822 : decode code 822 = .ok (.ifCond .eq 279, 3) := by decide +kernel
theorem dL_law_825 : decode code 825 = .ok (.iconst 0, 1) := by decide +kernel
theorem dL_law_826 : decode code 826 = .ok (.ireturn, 1) := by decide +kernel
theorem dL_law_827 : decode code 827 = .ok (.aload_n 1, 1) := by decide +kernel
theorem dL_law_828 : decode code 828 = .ok (.aload_n 0, 1) := by decide +kernel
theorem dL_law_829 : decode code 829 = .ok (.iload_n 3, 1) := by decide +kernel
theorem dL_law_830 : decode code 830 = .ok (.iconst 1, 1) := by decide +kernel
theorem dL_law_831 : decode code 831 = .ok (.iadd, 1) := by decide +kernel
theorem dL_law_832 : decode code 832 = .ok (.iaload, 1) := by decide +kernel
theorem dL_law_833 : decode code 833 = .ok (.aload_n 0, 1) := by decide +kernel
theorem dL_law_834 : decode code 834 = .ok (.iload_n 3, 1) := by decide +kernel
theorem dL_law_835 : decode code 835 = .ok (.iconst 2, 1) := by decide +kernel
theorem dL_law_836 : decode code 836 = .ok (.iadd, 1) := by decide +kernel
theorem dL_law_837 : decode code 837 = .ok (.iaload, 1) := by decide +kernel
theorem dL_law_838 : decode code 838 = .ok (.invokevirtual 104, 3) := by decide +kernel
theorem dL_law_841 : decode code 841 = .ok (.aload_n 2, 1) := by decide +kernel
theorem dL_law_842 : decode code 842 = .ok (.aload_n 0, 1) := by decide +kernel
theorem dL_law_843 : decode code 843 = .ok (.iload_n 3, 1) := by decide +kernel
theorem dL_law_844 : decode code 844 = .ok (.iconst 1, 1) := by decide +kernel
theorem dL_law_845 : decode code 845 = .ok (.iadd, 1) := by decide +kernel
theorem dL_law_846 : decode code 846 = .ok (.iaload, 1) := by decide +kernel
theorem dL_law_847 : decode code 847 = .ok (.aload_n 0, 1) := by decide +kernel
theorem dL_law_848 : decode code 848 = .ok (.iload_n 3, 1) := by decide +kernel
theorem dL_law_849 : decode code 849 = .ok (.iconst 2, 1) := by decide +kernel
theorem dL_law_850 : decode code 850 = .ok (.iadd, 1) := by decide +kernel
theorem dL_law_851 : decode code 851 = .ok (.iaload, 1) := by decide +kernel
theorem dL_law_852 : decode code 852 = .ok (.invokevirtual 107, 3) := by decide +kernel
theorem dL_law_855 : decode code 855 = .ok (.if_icmp .eq 246, 3) := by decide +kernel
theorem dL_law_858 : decode code 858 = .ok (.iconst 0, 1) := by decide +kernel
theorem dL_law_859 : decode code 859 = .ok (.ireturn, 1) := by decide +kernel
theorem dL_law_860 : decode code 860 = .ok (.aload_n 1, 1) := by decide +kernel
theorem dL_law_861 : decode code 861 = .ok (.aload_n 0, 1) := by decide +kernel
theorem dL_law_862 : decode code 862 = .ok (.iload_n 3, 1) := by decide +kernel
theorem dL_law_863 : decode code 863 = .ok (.iconst 1, 1) := by decide +kernel
theorem dL_law_864 : decode code 864 = .ok (.iadd, 1) := by decide +kernel
theorem dL_law_865 : decode code 865 = .ok (.iaload, 1) := by decide +kernel
theorem dL_law_866 : decode code 866 = .ok (.aload_n 0, 1) := by decide +kernel
theorem dL_law_867 : decode code 867 = .ok (.iload_n 3, 1) := by decide +kernel
theorem dL_law_868 : decode code 868 = .ok (.iconst 2, 1) := by decide +kernel
theorem dL_law_869 : decode code 869 = .ok (.iadd, 1) := by decide +kernel
theorem dL_law_870 : decode code 870 = .ok (.iaload, 1) := by decide +kernel
theorem dL_law_871 : decode code 871 = .ok (.aload_n 0, 1) := by decide +kernel
theorem dL_law_872 : decode code 872 = .ok (.iload_n 3, 1) := by decide +kernel
theorem dL_law_873 : decode code 873 = .ok (.iconst 3, 1) := by decide +kernel
theorem dL_law_874 : decode code 874 = .ok (.iadd, 1) := by decide +kernel
theorem dL_law_875 : decode code 875 = .ok (.iaload, 1) := by decide +kernel
theorem dL_law_876 : decode code 876 = .ok (.aload_n 0, 1) := by decide +kernel
theorem dL_law_877 : decode code 877 = .ok (.iload_n 3, 1) := by decide +kernel
theorem dL_law_878 : decode code 878 = .ok (.iconst 4, 1) := by decide +kernel
theorem dL_law_879 : decode code 879 = .ok (.iadd, 1) := by decide +kernel
theorem dL_law_880 : decode code 880 = .ok (.iaload, 1) := by decide +kernel
theorem dL_law_881 : decode code 881 = .ok (.invokevirtual 108, 3) := by decide +kernel
theorem dL_law_884 : decode code 884 = .ok (.aload_n 2, 1) := by decide +kernel
theorem dL_law_885 : decode code 885 = .ok (.aload_n 0, 1) := by decide +kernel
theorem dL_law_886 : decode code 886 = .ok (.iload_n 3, 1) := by decide +kernel
theorem dL_law_887 : decode code 887 = .ok (.iconst 1, 1) := by decide +kernel
theorem dL_law_888 : decode code 888 = .ok (.iadd, 1) := by decide +kernel
theorem dL_law_889 : decode code 889 = .ok (.iaload, 1) := by decide +kernel
theorem dL_law_890 : decode code 890 = .ok (.aload_n 0, 1) := by decide +kernel
theorem dL_law_891 : decode code 891 = .ok (.iload_n 3, 1) := by decide +kernel
theorem dL_law_892 : decode code 892 = .ok (.iconst 2, 1) := by decide +kernel
theorem dL_law_893 : decode code 893 = .ok (.iadd, 1) := by decide +kernel
theorem dL_law_894 : decode code 894 = .ok (.iaload, 1) := by decide +kernel
theorem dL_law_895 : decode code 895 = .ok (.aload_n 0, 1) := by decide +kernel
theorem dL_law_896 : decode code 896 = .ok (.iload_n 3, 1) := by decide +kernel
theorem dL_law_897 : decode code 897 = .ok (.iconst 3, 1) := by decide +kernel
theorem dL_law_898 : decode code 898 = .ok (.iadd, 1) := by decide +kernel
theorem dL_law_899 : decode code 899 = .ok (.iaload, 1) := by decide +kernel
theorem dL_law_900 : decode code 900 = .ok (.aload_n 0, 1) := by decide +kernel
theorem dL_law_901 : decode code 901 = .ok (.iload_n 3, 1) := by decide +kernel
theorem dL_law_902 : decode code 902 = .ok (.iconst 4, 1) := by decide +kernel
theorem dL_law_903 : decode code 903 = .ok (.iadd, 1) := by decide +kernel
theorem dL_law_904 : decode code 904 = .ok (.iaload, 1) := by decide +kernel
theorem dL_law_905 : decode code 905 = .ok (.invokevirtual 112, 3) := by decide +kernel
theorem dL_law_908 : decode code 908 = .ok (.lcmp, 1) := by decide +kernel
theorem dL_law_909 : decode code 909 = .ok (.ifCond .eq 192, 3) := by decide +kernel
theorem dL_law_912 : decode code 912 = .ok (.iconst 0, 1) := by decide +kernel
theorem dL_law_913 : decode code 913 = .ok (.ireturn, 1) := by decide +kernel
theorem dL_law_914 : decode code 914 = .ok (.aload_n 1, 1) := by decide +kernel
theorem dL_law_915 : decode code 915 = .ok (.aload_n 0, 1) := by decide +kernel
theorem dL_law_916 : decode code 916 = .ok (.iload_n 3, 1) := by decide +kernel
theorem dL_law_917 : decode code 917 = .ok (.iconst 1, 1) := by decide +kernel
theorem dL_law_918 : decode code 918 = .ok (.iadd, 1) := by decide +kernel
theorem dL_law_919 : decode code 919 = .ok (.iaload, 1) := by decide +kernel
theorem dL_law_920 : decode code 920 = .ok (.aload_n 0, 1) := by decide +kernel
theorem dL_law_921 : decode code 921 = .ok (.iload_n 3, 1) := by decide +kernel
theorem dL_law_922 : decode code 922 = .ok (.iconst 2, 1) := by decide +kernel
theorem dL_law_923 : decode code 923 = .ok (.iadd, 1) := by decide +kernel
theorem dL_law_924 : decode code 924 = .ok (.iaload, 1) := by decide +kernel
theorem dL_law_925 : decode code 925 = .ok (.aload_n 0, 1) := by decide +kernel
theorem dL_law_926 : decode code 926 = .ok (.iload_n 3, 1) := by decide +kernel
theorem dL_law_927 : decode code 927 = .ok (.iconst 3, 1) := by decide +kernel
theorem dL_law_928 : decode code 928 = .ok (.iadd, 1) := by decide +kernel
theorem dL_law_929 : decode code 929 = .ok (.iaload, 1) := by decide +kernel
theorem dL_law_930 : decode code 930 = .ok (.invokevirtual 113, 3) := by decide +kernel
theorem dL_law_933 : decode code 933 = .ok (.aload_n 2, 1) := by decide +kernel
theorem dL_law_934 : decode code 934 = .ok (.aload_n 0, 1) := by decide +kernel
theorem dL_law_935 : decode code 935 = .ok (.iload_n 3, 1) := by decide +kernel
theorem dL_law_936 : decode code 936 = .ok (.iconst 1, 1) := by decide +kernel
theorem dL_law_937 : decode code 937 = .ok (.iadd, 1) := by decide +kernel
theorem dL_law_938 : decode code 938 = .ok (.iaload, 1) := by decide +kernel
theorem dL_law_939 : decode code 939 = .ok (.aload_n 0, 1) := by decide +kernel
theorem dL_law_940 : decode code 940 = .ok (.iload_n 3, 1) := by decide +kernel
theorem dL_law_941 : decode code 941 = .ok (.iconst 2, 1) := by decide +kernel
theorem dL_law_942 : decode code 942 = .ok (.iadd, 1) := by decide +kernel
theorem dL_law_943 : decode code 943 = .ok (.iaload, 1) := by decide +kernel
theorem dL_law_944 : decode code 944 = .ok (.aload_n 0, 1) := by decide +kernel
theorem dL_law_945 : decode code 945 = .ok (.iload_n 3, 1) := by decide +kernel
theorem dL_law_946 : decode code 946 = .ok (.iconst 3, 1) := by decide +kernel
theorem dL_law_947 : decode code 947 = .ok (.iadd, 1) := by decide +kernel
theorem dL_law_948 : decode code 948 = .ok (.iaload, 1) := by decide +kernel
theorem dL_law_949 : decode code 949 = .ok (.invokevirtual 116, 3) := by decide +kernel
theorem dL_law_952 : decode code 952 = .ok (.lcmp, 1) := by decide +kernel
theorem dL_law_953 : decode code 953 = .ok (.ifCond .eq 148, 3) := by decide +kernel
theorem dL_law_956 : decode code 956 = .ok (.iconst 0, 1) := by decide +kernel
theorem dL_law_957 : decode code 957 = .ok (.ireturn, 1) := by decide +kernel
theorem dL_law_958 : decode code 958 = .ok (.aload_n 1, 1) := by decide +kernel
theorem dL_law_959 : decode code 959 = .ok (.aload_n 0, 1) := by decide +kernel
theorem dL_law_960 : decode code 960 = .ok (.iload_n 3, 1) := by decide +kernel
theorem dL_law_961 : decode code 961 = .ok (.iconst 1, 1) := by decide +kernel
theorem dL_law_962 : decode code 962 = .ok (.iadd, 1) := by decide +kernel
theorem dL_law_963 : decode code 963 = .ok (.iaload, 1) := by decide +kernel
theorem dL_law_964 : decode code 964 = .ok (.aload_n 0, 1) := by decide +kernel
theorem dL_law_965 : decode code 965 = .ok (.iload_n 3, 1) := by decide +kernel
theorem dL_law_966 : decode code 966 = .ok (.iconst 2, 1) := by decide +kernel
theorem dL_law_967 : decode code 967 = .ok (.iadd, 1) := by decide +kernel
theorem dL_law_968 : decode code 968 = .ok (.iaload, 1) := by decide +kernel
theorem dL_law_969 : decode code 969 = .ok (.aload_n 0, 1) := by decide +kernel
theorem dL_law_970 : decode code 970 = .ok (.iload_n 3, 1) := by decide +kernel
theorem dL_law_971 : decode code 971 = .ok (.iconst 3, 1) := by decide +kernel
theorem dL_law_972 : decode code 972 = .ok (.iadd, 1) := by decide +kernel
theorem dL_law_973 : decode code 973 = .ok (.iaload, 1) := by decide +kernel
theorem dL_law_974 : decode code 974 = .ok (.invokevirtual 117, 3) := by decide +kernel
theorem dL_law_977 : decode code 977 = .ok (.aload_n 2, 1) := by decide +kernel
theorem dL_law_978 : decode code 978 = .ok (.aload_n 0, 1) := by decide +kernel
theorem dL_law_979 : decode code 979 = .ok (.iload_n 3, 1) := by decide +kernel
theorem dL_law_980 : decode code 980 = .ok (.iconst 1, 1) := by decide +kernel
theorem dL_law_981 : decode code 981 = .ok (.iadd, 1) := by decide +kernel
theorem dL_law_982 : decode code 982 = .ok (.iaload, 1) := by decide +kernel
theorem dL_law_983 : decode code 983 = .ok (.aload_n 0, 1) := by decide +kernel
theorem dL_law_984 : decode code 984 = .ok (.iload_n 3, 1) := by decide +kernel
theorem dL_law_985 : decode code 985 = .ok (.iconst 2, 1) := by decide +kernel
theorem dL_law_986 : decode code 986 = .ok (.iadd, 1) := by decide +kernel
theorem dL_law_987 : decode code 987 = .ok (.iaload, 1) := by decide +kernel
theorem dL_law_988 : decode code 988 = .ok (.aload_n 0, 1) := by decide +kernel
theorem dL_law_989 : decode code 989 = .ok (.iload_n 3, 1) := by decide +kernel
theorem dL_law_990 : decode code 990 = .ok (.iconst 3, 1) := by decide +kernel
theorem dL_law_991 : decode code 991 = .ok (.iadd, 1) := by decide +kernel
theorem dL_law_992 : decode code 992 = .ok (.iaload, 1) := by decide +kernel
theorem dL_law_993 : decode code 993 = .ok (.invokevirtual 120, 3) := by decide +kernel
theorem dL_law_996 : decode code 996 = .ok (.lcmp, 1) := by decide +kernel
theorem dL_law_997 : decode code 997 = .ok (.ifCond .eq 104, 3) := by decide +kernel
theorem dL_law_1000 : decode code 1000 = .ok (.iconst 0, 1) := by decide +kernel
theorem dL_law_1001 : decode code 1001 = .ok (.ireturn, 1) := by decide +kernel
theorem dL_law_1002 : decode code 1002 = .ok (.aload_n 1, 1) := by decide +kernel
theorem dL_law_1003 : decode code 1003 = .ok (.aload_n 0, 1) := by decide +kernel
theorem dL_law_1004 : decode code 1004 = .ok (.iload_n 3, 1) := by decide +kernel
theorem dL_law_1005 : decode code 1005 = .ok (.iconst 1, 1) := by decide +kernel
theorem dL_law_1006 : decode code 1006 = .ok (.iadd, 1) := by decide +kernel
theorem dL_law_1007 : decode code 1007 = .ok (.iaload, 1) := by decide +kernel
theorem dL_law_1008 : decode code 1008 = .ok (.aload_n 0, 1) := by decide +kernel
theorem dL_law_1009 : decode code 1009 = .ok (.iload_n 3, 1) := by decide +kernel
theorem dL_law_1010 : decode code 1010 = .ok (.iconst 2, 1) := by decide +kernel
theorem dL_law_1011 : decode code 1011 = .ok (.iadd, 1) := by decide +kernel
theorem dL_law_1012 : decode code 1012 = .ok (.iaload, 1) := by decide +kernel
theorem dL_law_1013 : decode code 1013 = .ok (.aload_n 0, 1) := by decide +kernel
theorem dL_law_1014 : decode code 1014 = .ok (.iload_n 3, 1) := by decide +kernel
theorem dL_law_1015 : decode code 1015 = .ok (.iconst 3, 1) := by decide +kernel
theorem dL_law_1016 : decode code 1016 = .ok (.iadd, 1) := by decide +kernel
theorem dL_law_1017 : decode code 1017 = .ok (.iaload, 1) := by decide +kernel
theorem dL_law_1018 : decode code 1018 = .ok (.invokevirtual 121, 3) := by decide +kernel
theorem dL_law_1021 : decode code 1021 = .ok (.aload_n 2, 1) := by decide +kernel
theorem dL_law_1022 : decode code 1022 = .ok (.aload_n 0, 1) := by decide +kernel
theorem dL_law_1023 : decode code 1023 = .ok (.iload_n 3, 1) := by decide +kernel
theorem dL_law_1024 : decode code 1024 = .ok (.iconst 1, 1) := by decide +kernel
theorem dL_law_1025 : decode code 1025 = .ok (.iadd, 1) := by decide +kernel
theorem dL_law_1026 : decode code 1026 = .ok (.iaload, 1) := by decide +kernel
theorem dL_law_1027 : decode code 1027 = .ok (.aload_n 0, 1) := by decide +kernel
theorem dL_law_1028 : decode code 1028 = .ok (.iload_n 3, 1) := by decide +kernel
theorem dL_law_1029 : decode code 1029 = .ok (.iconst 2, 1) := by decide +kernel
theorem dL_law_1030 : decode code 1030 = .ok (.iadd, 1) := by decide +kernel
theorem dL_law_1031 : decode code 1031 = .ok (.iaload, 1) := by decide +kernel
theorem dL_law_1032 : decode code 1032 = .ok (.aload_n 0, 1) := by decide +kernel
theorem dL_law_1033 : decode code 1033 = .ok (.iload_n 3, 1) := by decide +kernel
theorem dL_law_1034 : decode code 1034 = .ok (.iconst 3, 1) := by decide +kernel
theorem dL_law_1035 : decode code 1035 = .ok (.iadd, 1) := by decide +kernel
theorem dL_law_1036 : decode code 1036 = .ok (.iaload, 1) := by decide +kernel
theorem dL_law_1037 : decode code 1037 = .ok (.invokevirtual 124, 3) := by decide +kernel
theorem dL_law_1040 : decode code 1040 = .ok (.if_icmp .eq 61, 3) := by decide +kernel
theorem dL_law_1043 : decode code 1043 = .ok (.iconst 0, 1) := by decide +kernel
theorem dL_law_1044 : decode code 1044 = .ok (.ireturn, 1) := by decide +kernel
theorem dL_law_1045 : decode code 1045 = .ok (.aload_n 1, 1) := by decide +kernel
theorem dL_law_1046 : decode code 1046 = .ok (.aload_n 0, 1) := by decide +kernel
theorem dL_law_1047 : decode code 1047 = .ok (.iload_n 3, 1) := by decide +kernel
theorem dL_law_1048 : decode code 1048 = .ok (.iconst 1, 1) := by decide +kernel
theorem dL_law_1049 : decode code 1049 = .ok (.iadd, 1) := by decide +kernel
theorem dL_law_1050 : decode code 1050 = .ok (.iaload, 1) := by decide +kernel
theorem dL_law_1051 : decode code 1051 = .ok (.aload_n 0, 1) := by decide +kernel
theorem dL_law_1052 : decode code 1052 = .ok (.iload_n 3, 1) := by decide +kernel
theorem dL_law_1053 : decode code 1053 = .ok (.iconst 2, 1) := by decide +kernel
theorem dL_law_1054 : decode code 1054 = .ok (.iadd, 1) := by decide +kernel
theorem dL_law_1055 : decode code 1055 = .ok (.iaload, 1) := by decide +kernel
theorem dL_law_1056 : decode code 1056 = .ok (.invokevirtual 125, 3) := by decide +kernel
theorem dL_law_1059 : decode code 1059 = .ok (.aload_n 2, 1) := by decide +kernel
theorem dL_law_1060 : decode code 1060 = .ok (.aload_n 0, 1) := by decide +kernel
theorem dL_law_1061 : decode code 1061 = .ok (.iload_n 3, 1) := by decide +kernel
theorem dL_law_1062 : decode code 1062 = .ok (.iconst 1, 1) := by decide +kernel
theorem dL_law_1063 : decode code 1063 = .ok (.iadd, 1) := by decide +kernel
theorem dL_law_1064 : decode code 1064 = .ok (.iaload, 1) := by decide +kernel
theorem dL_law_1065 : decode code 1065 = .ok (.aload_n 0, 1) := by decide +kernel
theorem dL_law_1066 : decode code 1066 = .ok (.iload_n 3, 1) := by decide +kernel
theorem dL_law_1067 : decode code 1067 = .ok (.iconst 2, 1) := by decide +kernel
theorem dL_law_1068 : decode code 1068 = .ok (.iadd, 1) := by decide +kernel
theorem dL_law_1069 : decode code 1069 = .ok (.iaload, 1) := by decide +kernel
theorem dL_law_1070 : decode code 1070 = .ok (.invokevirtual 128, 3) := by decide +kernel
theorem dL_law_1073 : decode code 1073 = .ok (.if_icmp .eq 28, 3) := by decide +kernel
theorem dL_law_1076 : decode code 1076 = .ok (.iconst 0, 1) := by decide +kernel
theorem dL_law_1077 : decode code 1077 = .ok (.ireturn, 1) := by decide +kernel
theorem dL_law_1078 : decode code 1078 = .ok (.aload_n 1, 1) := by decide +kernel
theorem dL_law_1079 : decode code 1079 = .ok (.aload_n 0, 1) := by decide +kernel
theorem dL_law_1080 : decode code 1080 = .ok (.iload_n 3, 1) := by decide +kernel
theorem dL_law_1081 : decode code 1081 = .ok (.iconst 1, 1) := by decide +kernel
theorem dL_law_1082 : decode code 1082 = .ok (.iadd, 1) := by decide +kernel
theorem dL_law_1083 : decode code 1083 = .ok (.iaload, 1) := by decide +kernel
theorem dL_law_1084 : decode code 1084 = .ok (.invokevirtual 129, 3) := by decide +kernel
theorem dL_law_1087 : decode code 1087 = .ok (.aload_n 2, 1) := by decide +kernel
theorem dL_law_1088 : decode code 1088 = .ok (.aload_n 0, 1) := by decide +kernel
theorem dL_law_1089 : decode code 1089 = .ok (.iload_n 3, 1) := by decide +kernel
theorem dL_law_1090 : decode code 1090 = .ok (.iconst 1, 1) := by decide +kernel
theorem dL_law_1091 : decode code 1091 = .ok (.iadd, 1) := by decide +kernel
theorem dL_law_1092 : decode code 1092 = .ok (.iaload, 1) := by decide +kernel
theorem dL_law_1093 : decode code 1093 = .ok (.invokevirtual 132, 3) := by decide +kernel
theorem dL_law_1096 : decode code 1096 = .ok (.if_icmp .eq 5, 3) := by decide +kernel
theorem dL_law_1099 : decode code 1099 = .ok (.iconst 0, 1) := by decide +kernel
theorem dL_law_1100 : decode code 1100 = .ok (.ireturn, 1) := by decide +kernel
theorem dL_law_1101 : decode code 1101 = .ok (.iinc 3 7, 3) := by decide +kernel
theorem dL_law_1104 : decode code 1104 = .ok (.goto (-1066), 3) := by decide +kernel
theorem dL_law_1107 : decode code 1107 = .ok (.iconst 1, 1) := by decide +kernel
theorem dL_law_1108 : decode code 1108 = .ok (.ireturn, 1) := by decide +kernel
