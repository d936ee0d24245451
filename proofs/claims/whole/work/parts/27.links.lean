/-! links: fields, static tables, methods (wip/printlinks.py) -/
theorem fx_uin {C : String} {T : u_T} {N : Nat} (is : List Nat) (h : is.map (fun i => tables_1[i]?) = (u_ws C T N).map some) (g : (u_ws C T N).all goodWord = true) : ∀ w ∈ u_ws C T N, w ∈ fx_tb := by
  intro w hw
  have h1 : some w ∈ (u_ws C T N).map some := List.mem_map.mpr ⟨w, hw, rfl⟩
  rw [← h] at h1
  obtain ⟨i, -, hi⟩ := List.mem_map.mp h1
  exact fx_in i hi (List.all_eq_true.mp g w hw)
set_option maxRecDepth 100000 in
theorem C_FP : fx_Cl 0 "FaxPages" T_FP 17 t_FP := ⟨rfl, fx_uin [276, 278, 280, 282, 284, 286, 288, 290, 292, 294, 296, 298, 300, 302, 304, 306, 308] (by decide +kernel) (by decide +kernel), (by decide +kernel), (by decide +kernel), rfl, fx_in 22 (by decide +kernel) rfl, fx_in 1 (by decide +kernel) rfl, (by decide +kernel)⟩
set_option maxRecDepth 100000 in
theorem C_BY : fx_Cl 1 "FaxPages$Bytes" T_BY 4 t_BY := ⟨rfl, fx_uin [42, 44, 46, 48] (by decide +kernel) (by decide +kernel), (by decide +kernel), (by decide +kernel), rfl, fx_in 30 (by decide +kernel) rfl, fx_in 2 (by decide +kernel) rfl, (by decide +kernel)⟩
set_option maxRecDepth 100000 in
theorem C_BR : fx_Cl 2 "FaxPages$BitReader" T_BR 3 t_BR := ⟨rfl, fx_uin [61, 63, 65] (by decide +kernel) (by decide +kernel), (by decide +kernel), (by decide +kernel), rfl, fx_in 53 (by decide +kernel) rfl, fx_in 3 (by decide +kernel) rfl, (by decide +kernel)⟩
set_option maxRecDepth 100000 in
theorem C_LI : fx_Cl 3 "FaxPages$Lines" T_LI 5 t_LI := ⟨rfl, fx_uin [101, 103, 105, 107, 109] (by decide +kernel) (by decide +kernel), (by decide +kernel), (by decide +kernel), rfl, fx_in 69 (by decide +kernel) rfl, fx_in 4 (by decide +kernel) rfl, (by decide +kernel)⟩
set_option maxRecDepth 100000 in
theorem C_CT : fx_Cl 4 "FaxPages$CodeTree" T_CT 1 t_CT := ⟨rfl, fx_uin [89] (by decide +kernel) (by decide +kernel), (by decide +kernel), (by decide +kernel), rfl, fx_in 75 (by decide +kernel) rfl, fx_in 5 (by decide +kernel) rfl, (by decide +kernel)⟩
set_option maxRecDepth 100000 in
theorem C_TG : fx_Cl 5 "FaxPages$Tags" T_TG 8 t_TG := ⟨rfl, fx_uin [134, 136, 138, 140, 142, 144, 146, 148] (by decide +kernel) (by decide +kernel), (by decide +kernel), (by decide +kernel), rfl, fx_in 113 (by decide +kernel) rfl, fx_in 7 (by decide +kernel) rfl, (by decide +kernel)⟩
set_option maxRecDepth 100000 in
theorem C_PL : fx_Cl 6 "FaxPages$Plain" T_PL 2 t_PL := ⟨rfl, fx_uin [159, 161] (by decide +kernel) (by decide +kernel), (by decide +kernel), (by decide +kernel), rfl, fx_in 152 (by decide +kernel) rfl, fx_in 8 (by decide +kernel) rfl, (by decide +kernel)⟩
set_option maxRecDepth 100000 in
theorem C_RU : fx_Cl 7 "FaxPages$Runs" T_RU 3 t_RU := ⟨rfl, fx_uin [173, 175, 177] (by decide +kernel) (by decide +kernel), (by decide +kernel), (by decide +kernel), rfl, fx_in 165 (by decide +kernel) rfl, fx_in 9 (by decide +kernel) rfl, (by decide +kernel)⟩
set_option maxRecDepth 100000 in
theorem C_TA : fx_Cl 8 "FaxPages$Table" T_TA 10 t_TA := ⟨rfl, fx_uin [196, 198, 200, 202, 204, 206, 208, 210, 212, 214] (by decide +kernel) (by decide +kernel), (by decide +kernel), (by decide +kernel), rfl, fx_in 181 (by decide +kernel) rfl, fx_in 10 (by decide +kernel) rfl, (by decide +kernel)⟩
set_option maxRecDepth 100000 in
theorem C_FX : fx_Cl 9 "FaxPages$Fax" T_FX 4 t_FX := ⟨rfl, fx_uin [227, 229, 231, 233] (by decide +kernel) (by decide +kernel), (by decide +kernel), (by decide +kernel), rfl, fx_in 218 (by decide +kernel) rfl, fx_in 11 (by decide +kernel) rfl, (by decide +kernel)⟩
set_option maxRecDepth 100000 in
theorem C_PI : fx_Cl 10 "FaxPages$Picture" T_PI 4 t_PI := ⟨rfl, fx_uin [250, 252, 254, 256] (by decide +kernel) (by decide +kernel), (by decide +kernel), (by decide +kernel), rfl, fx_in 237 (by decide +kernel) rfl, fx_in 12 (by decide +kernel) rfl, (by decide +kernel)⟩
set_option maxRecDepth 100000 in
theorem C_MO : fx_Cl 11 "FaxPagesModel" T_MO 37 t_MO := ⟨rfl, fx_uin [933, 935, 937, 939, 941, 943, 945, 947, 949, 951, 953, 955, 957, 959, 961, 963, 965, 967, 969, 971, 973, 975, 977, 979, 981, 983, 985, 987, 989, 991, 993, 995, 997, 999, 1001, 1003, 1005] (by decide +kernel) (by decide +kernel), (by decide +kernel), (by decide +kernel), rfl, fx_in 887 (by decide +kernel) rfl, fx_in 13 (by decide +kernel) rfl, (by decide +kernel)⟩
theorem lk_BY_9 : fx_lk "FaxPages$Bytes" 9 1 0 (.array .int) true false := ⟨_, _, _, _, C_BY, by decide, rfl, rfl, fun h1 h2 => (by first | rfl | cases h1 | cases h2), Or.inl ⟨rfl, fx_in 35 (by decide +kernel) rfl⟩⟩
theorem lk_BY_15 : fx_lk "FaxPages$Bytes" 15 1 1 (.int) false false := ⟨_, _, _, _, C_BY, by decide, rfl, rfl, fun h1 h2 => (by first | rfl | cases h1 | cases h2), Or.inl ⟨rfl, fx_in 36 (by decide +kernel) rfl⟩⟩
theorem lk_TG_49 : fx_lk "FaxPages$Tags" 49 1 1 (.int) false true := ⟨_, _, _, _, C_BY, by decide, rfl, rfl, fun h1 h2 => (by first | rfl | cases h1 | cases h2), Or.inr ⟨rfl, _, fx_ix (w := .fieldLinkNest "FaxPages$Tags" 49 "FaxPages$Bytes" "used" "I" "FaxPages") 37 (by decide +kernel) rfl⟩⟩
theorem lk_FP_160 : fx_lk "FaxPages" 160 1 1 (.int) false true := ⟨_, _, _, _, C_BY, by decide, rfl, rfl, fun h1 h2 => (by first | rfl | cases h1 | cases h2), Or.inr ⟨rfl, _, fx_ix (w := .fieldLinkNest "FaxPages" 160 "FaxPages$Bytes" "used" "I" "FaxPages") 38 (by decide +kernel) rfl⟩⟩
theorem lk_BY_25 : fx_lk "FaxPages$Bytes" 25 1 2 (.boolean) false false := ⟨_, _, _, _, C_BY, by decide, rfl, rfl, fun h1 h2 => (by first | rfl | cases h1 | cases h2), Or.inl ⟨rfl, fx_in 39 (by decide +kernel) rfl⟩⟩
theorem lk_FP_179 : fx_lk "FaxPages" 179 1 2 (.boolean) false true := ⟨_, _, _, _, C_BY, by decide, rfl, rfl, fun h1 h2 => (by first | rfl | cases h1 | cases h2), Or.inr ⟨rfl, _, fx_ix (w := .fieldLinkNest "FaxPages" 179 "FaxPages$Bytes" "motorola" "Z" "FaxPages") 40 (by decide +kernel) rfl⟩⟩
theorem lk_BY_44 : fx_lk "FaxPages$Bytes" 44 1 3 (.int) false false := ⟨_, _, _, _, C_BY, by decide, rfl, rfl, fun h1 h2 => (by first | rfl | cases h1 | cases h2), Or.inl ⟨rfl, fx_in 41 (by decide +kernel) rfl⟩⟩
theorem lk_BR_7 : fx_lk "FaxPages$BitReader" 7 2 0 (.object "FaxPages$Bytes") true false := ⟨_, _, _, _, C_BR, by decide, rfl, rfl, fun h1 h2 => (by first | rfl | cases h1 | cases h2), Or.inl ⟨rfl, fx_in 58 (by decide +kernel) rfl⟩⟩
theorem lk_BR_13 : fx_lk "FaxPages$BitReader" 13 2 1 (.int) false false := ⟨_, _, _, _, C_BR, by decide, rfl, rfl, fun h1 h2 => (by first | rfl | cases h1 | cases h2), Or.inl ⟨rfl, fx_in 59 (by decide +kernel) rfl⟩⟩
theorem lk_BR_17 : fx_lk "FaxPages$BitReader" 17 2 2 (.int) false false := ⟨_, _, _, _, C_BR, by decide, rfl, rfl, fun h1 h2 => (by first | rfl | cases h1 | cases h2), Or.inl ⟨rfl, fx_in 60 (by decide +kernel) rfl⟩⟩
theorem ls_LI_21 : fx_ls "FaxPages$Lines" 21 1 := ⟨_, rfl, Or.inr ⟨_, fx_ix (w := .fieldLinkNest "FaxPages$Lines" 21 "FaxPages" "WHITE_RUNS" "[I" "FaxPages") 76 (by decide +kernel) rfl⟩⟩
theorem lk_CT_9 : fx_lk "FaxPages$CodeTree" 9 4 0 (.array .int) true false := ⟨_, _, _, _, C_CT, by decide, rfl, rfl, fun h1 h2 => (by first | rfl | cases h1 | cases h2), Or.inl ⟨rfl, fx_in 88 (by decide +kernel) rfl⟩⟩
theorem ls_LI_32 : fx_ls "FaxPages$Lines" 32 2 := ⟨_, rfl, Or.inr ⟨_, fx_ix (w := .fieldLinkNest "FaxPages$Lines" 32 "FaxPages" "BLACK_RUNS" "[I" "FaxPages") 92 (by decide +kernel) rfl⟩⟩
theorem ls_LI_38 : fx_ls "FaxPages$Lines" 38 3 := ⟨_, rfl, Or.inr ⟨_, fx_ix (w := .fieldLinkNest "FaxPages$Lines" 38 "FaxPages" "MODES" "[I" "FaxPages") 94 (by decide +kernel) rfl⟩⟩
theorem lk_LI_9 : fx_lk "FaxPages$Lines" 9 3 0 (.object "FaxPages$Bytes") true false := ⟨_, _, _, _, C_LI, by decide, rfl, rfl, fun h1 h2 => (by first | rfl | cases h1 | cases h2), Or.inl ⟨rfl, fx_in 96 (by decide +kernel) rfl⟩⟩
theorem lk_LI_15 : fx_lk "FaxPages$Lines" 15 3 1 (.object "FaxPages$BitReader") true false := ⟨_, _, _, _, C_LI, by decide, rfl, rfl, fun h1 h2 => (by first | rfl | cases h1 | cases h2), Or.inl ⟨rfl, fx_in 97 (by decide +kernel) rfl⟩⟩
theorem lk_LI_28 : fx_lk "FaxPages$Lines" 28 3 2 (.object "FaxPages$CodeTree") true false := ⟨_, _, _, _, C_LI, by decide, rfl, rfl, fun h1 h2 => (by first | rfl | cases h1 | cases h2), Or.inl ⟨rfl, fx_in 98 (by decide +kernel) rfl⟩⟩
theorem lk_LI_35 : fx_lk "FaxPages$Lines" 35 3 3 (.object "FaxPages$CodeTree") true false := ⟨_, _, _, _, C_LI, by decide, rfl, rfl, fun h1 h2 => (by first | rfl | cases h1 | cases h2), Or.inl ⟨rfl, fx_in 99 (by decide +kernel) rfl⟩⟩
theorem lk_LI_41 : fx_lk "FaxPages$Lines" 41 3 4 (.object "FaxPages$CodeTree") true false := ⟨_, _, _, _, C_LI, by decide, rfl, rfl, fun h1 h2 => (by first | rfl | cases h1 | cases h2), Or.inl ⟨rfl, fx_in 100 (by decide +kernel) rfl⟩⟩
theorem ls_TG_15 : fx_ls "FaxPages$Tags" 15 0 := ⟨_, rfl, Or.inr ⟨_, fx_ix (w := .fieldLinkNest "FaxPages$Tags" 15 "FaxPages" "NUMBERS" "[I" "FaxPages") 118 (by decide +kernel) rfl⟩⟩
theorem lk_TG_9 : fx_lk "FaxPages$Tags" 9 5 0 (.object "FaxPages$Bytes") true false := ⟨_, _, _, _, C_TG, by decide, rfl, rfl, fun h1 h2 => (by first | rfl | cases h1 | cases h2), Or.inl ⟨rfl, fx_in 120 (by decide +kernel) rfl⟩⟩
theorem lk_TG_19 : fx_lk "FaxPages$Tags" 19 5 1 (.array .int) true false := ⟨_, _, _, _, C_TG, by decide, rfl, rfl, fun h1 h2 => (by first | rfl | cases h1 | cases h2), Or.inl ⟨rfl, fx_in 121 (by decide +kernel) rfl⟩⟩
theorem lk_TG_63 : fx_lk "FaxPages$Tags" 63 5 2 (.boolean) false false := ⟨_, _, _, _, C_TG, by decide, rfl, rfl, fun h1 h2 => (by first | rfl | cases h1 | cases h2), Or.inl ⟨rfl, fx_in 122 (by decide +kernel) rfl⟩⟩
theorem lk_FP_239 : fx_lk "FaxPages" 239 5 2 (.boolean) false true := ⟨_, _, _, _, C_TG, by decide, rfl, rfl, fun h1 h2 => (by first | rfl | cases h1 | cases h2), Or.inr ⟨rfl, _, fx_ix (w := .fieldLinkNest "FaxPages" 239 "FaxPages$Tags" "gray" "Z" "FaxPages") 123 (by decide +kernel) rfl⟩⟩
theorem lk_TG_71 : fx_lk "FaxPages$Tags" 71 5 3 (.int) false false := ⟨_, _, _, _, C_TG, by decide, rfl, rfl, fun h1 h2 => (by first | rfl | cases h1 | cases h2), Or.inl ⟨rfl, fx_in 124 (by decide +kernel) rfl⟩⟩
theorem lk_FP_240 : fx_lk "FaxPages" 240 5 3 (.int) false true := ⟨_, _, _, _, C_TG, by decide, rfl, rfl, fun h1 h2 => (by first | rfl | cases h1 | cases h2), Or.inr ⟨rfl, _, fx_ix (w := .fieldLinkNest "FaxPages" 240 "FaxPages$Tags" "width" "I" "FaxPages") 125 (by decide +kernel) rfl⟩⟩
theorem lk_TG_74 : fx_lk "FaxPages$Tags" 74 5 4 (.int) false false := ⟨_, _, _, _, C_TG, by decide, rfl, rfl, fun h1 h2 => (by first | rfl | cases h1 | cases h2), Or.inl ⟨rfl, fx_in 126 (by decide +kernel) rfl⟩⟩
theorem lk_FP_241 : fx_lk "FaxPages" 241 5 4 (.int) false true := ⟨_, _, _, _, C_TG, by decide, rfl, rfl, fun h1 h2 => (by first | rfl | cases h1 | cases h2), Or.inr ⟨rfl, _, fx_ix (w := .fieldLinkNest "FaxPages" 241 "FaxPages$Tags" "height" "I" "FaxPages") 127 (by decide +kernel) rfl⟩⟩
theorem lk_TG_84 : fx_lk "FaxPages$Tags" 84 5 5 (.int) false false := ⟨_, _, _, _, C_TG, by decide, rfl, rfl, fun h1 h2 => (by first | rfl | cases h1 | cases h2), Or.inl ⟨rfl, fx_in 128 (by decide +kernel) rfl⟩⟩
theorem lk_FP_176 : fx_lk "FaxPages" 176 5 5 (.int) false true := ⟨_, _, _, _, C_TG, by decide, rfl, rfl, fun h1 h2 => (by first | rfl | cases h1 | cases h2), Or.inr ⟨rfl, _, fx_ix (w := .fieldLinkNest "FaxPages" 176 "FaxPages$Tags" "scheme" "I" "FaxPages") 129 (by decide +kernel) rfl⟩⟩
theorem lk_FP_182 : fx_lk "FaxPages" 182 5 6 (.int) false true := ⟨_, _, _, _, C_TG, by decide, rfl, rfl, fun h1 h2 => (by first | rfl | cases h1 | cases h2), Or.inr ⟨rfl, _, fx_ix (w := .fieldLinkNest "FaxPages" 182 "FaxPages$Tags" "rows" "I" "FaxPages") 130 (by decide +kernel) rfl⟩⟩
theorem lk_TG_91 : fx_lk "FaxPages$Tags" 91 5 6 (.int) false false := ⟨_, _, _, _, C_TG, by decide, rfl, rfl, fun h1 h2 => (by first | rfl | cases h1 | cases h2), Or.inl ⟨rfl, fx_in 131 (by decide +kernel) rfl⟩⟩
theorem lk_FP_185 : fx_lk "FaxPages" 185 5 7 (.int) false true := ⟨_, _, _, _, C_TG, by decide, rfl, rfl, fun h1 h2 => (by first | rfl | cases h1 | cases h2), Or.inr ⟨rfl, _, fx_ix (w := .fieldLinkNest "FaxPages" 185 "FaxPages$Tags" "strips" "I" "FaxPages") 132 (by decide +kernel) rfl⟩⟩
theorem lk_TG_98 : fx_lk "FaxPages$Tags" 98 5 7 (.int) false false := ⟨_, _, _, _, C_TG, by decide, rfl, rfl, fun h1 h2 => (by first | rfl | cases h1 | cases h2), Or.inl ⟨rfl, fx_in 133 (by decide +kernel) rfl⟩⟩
theorem lk_PL_7 : fx_lk "FaxPages$Plain" 7 6 0 (.object "FaxPages$Bytes") true false := ⟨_, _, _, _, C_PL, by decide, rfl, rfl, fun h1 h2 => (by first | rfl | cases h1 | cases h2), Or.inl ⟨rfl, fx_in 157 (by decide +kernel) rfl⟩⟩
theorem lk_PL_13 : fx_lk "FaxPages$Plain" 13 6 1 (.object "FaxPages$BitReader") true false := ⟨_, _, _, _, C_PL, by decide, rfl, rfl, fun h1 h2 => (by first | rfl | cases h1 | cases h2), Or.inl ⟨rfl, fx_in 158 (by decide +kernel) rfl⟩⟩
theorem lk_RU_9 : fx_lk "FaxPages$Runs" 9 7 0 (.object "FaxPages$Bytes") true false := ⟨_, _, _, _, C_RU, by decide, rfl, rfl, fun h1 h2 => (by first | rfl | cases h1 | cases h2), Or.inl ⟨rfl, fx_in 170 (by decide +kernel) rfl⟩⟩
theorem lk_RU_15 : fx_lk "FaxPages$Runs" 15 7 1 (.object "FaxPages$BitReader") true false := ⟨_, _, _, _, C_RU, by decide, rfl, rfl, fun h1 h2 => (by first | rfl | cases h1 | cases h2), Or.inl ⟨rfl, fx_in 171 (by decide +kernel) rfl⟩⟩
theorem lk_RU_19 : fx_lk "FaxPages$Runs" 19 7 2 (.array .int) true false := ⟨_, _, _, _, C_RU, by decide, rfl, rfl, fun h1 h2 => (by first | rfl | cases h1 | cases h2), Or.inl ⟨rfl, fx_in 172 (by decide +kernel) rfl⟩⟩
theorem lk_TA_11 : fx_lk "FaxPages$Table" 11 8 0 (.object "FaxPages$Bytes") true false := ⟨_, _, _, _, C_TA, by decide, rfl, rfl, fun h1 h2 => (by first | rfl | cases h1 | cases h2), Or.inl ⟨rfl, fx_in 186 (by decide +kernel) rfl⟩⟩
theorem lk_TA_15 : fx_lk "FaxPages$Table" 15 8 1 (.object "FaxPages$BitReader") true false := ⟨_, _, _, _, C_TA, by decide, rfl, rfl, fun h1 h2 => (by first | rfl | cases h1 | cases h2), Or.inl ⟨rfl, fx_in 187 (by decide +kernel) rfl⟩⟩
theorem lk_TA_19 : fx_lk "FaxPages$Table" 19 8 2 (.array .int) true false := ⟨_, _, _, _, C_TA, by decide, rfl, rfl, fun h1 h2 => (by first | rfl | cases h1 | cases h2), Or.inl ⟨rfl, fx_in 188 (by decide +kernel) rfl⟩⟩
theorem lk_TA_23 : fx_lk "FaxPages$Table" 23 8 3 (.array .int) true false := ⟨_, _, _, _, C_TA, by decide, rfl, rfl, fun h1 h2 => (by first | rfl | cases h1 | cases h2), Or.inl ⟨rfl, fx_in 189 (by decide +kernel) rfl⟩⟩
theorem lk_TA_26 : fx_lk "FaxPages$Table" 26 8 4 (.array .int) true false := ⟨_, _, _, _, C_TA, by decide, rfl, rfl, fun h1 h2 => (by first | rfl | cases h1 | cases h2), Or.inl ⟨rfl, fx_in 190 (by decide +kernel) rfl⟩⟩
theorem lk_TA_29 : fx_lk "FaxPages$Table" 29 8 5 (.array .int) true false := ⟨_, _, _, _, C_TA, by decide, rfl, rfl, fun h1 h2 => (by first | rfl | cases h1 | cases h2), Or.inl ⟨rfl, fx_in 191 (by decide +kernel) rfl⟩⟩
theorem lk_TA_32 : fx_lk "FaxPages$Table" 32 8 6 (.array .int) true false := ⟨_, _, _, _, C_TA, by decide, rfl, rfl, fun h1 h2 => (by first | rfl | cases h1 | cases h2), Or.inl ⟨rfl, fx_in 192 (by decide +kernel) rfl⟩⟩
theorem lk_TA_35 : fx_lk "FaxPages$Table" 35 8 7 (.array .int) true false := ⟨_, _, _, _, C_TA, by decide, rfl, rfl, fun h1 h2 => (by first | rfl | cases h1 | cases h2), Or.inl ⟨rfl, fx_in 193 (by decide +kernel) rfl⟩⟩
theorem lk_TA_52 : fx_lk "FaxPages$Table" 52 8 8 (.int) false false := ⟨_, _, _, _, C_TA, by decide, rfl, rfl, fun h1 h2 => (by first | rfl | cases h1 | cases h2), Or.inl ⟨rfl, fx_in 194 (by decide +kernel) rfl⟩⟩
theorem lk_TA_48 : fx_lk "FaxPages$Table" 48 8 9 (.int) false false := ⟨_, _, _, _, C_TA, by decide, rfl, rfl, fun h1 h2 => (by first | rfl | cases h1 | cases h2), Or.inl ⟨rfl, fx_in 195 (by decide +kernel) rfl⟩⟩
theorem lk_FX_7 : fx_lk "FaxPages$Fax" 7 9 0 (.boolean) true false := ⟨_, _, _, _, C_FX, by decide, rfl, rfl, fun h1 h2 => (by first | rfl | cases h1 | cases h2), Or.inl ⟨rfl, fx_in 223 (by decide +kernel) rfl⟩⟩
theorem lk_FX_13 : fx_lk "FaxPages$Fax" 13 9 1 (.object "FaxPages$Lines") true false := ⟨_, _, _, _, C_FX, by decide, rfl, rfl, fun h1 h2 => (by first | rfl | cases h1 | cases h2), Or.inl ⟨rfl, fx_in 224 (by decide +kernel) rfl⟩⟩
theorem lk_FX_17 : fx_lk "FaxPages$Fax" 17 9 2 (.object "FaxPages$Bytes") true false := ⟨_, _, _, _, C_FX, by decide, rfl, rfl, fun h1 h2 => (by first | rfl | cases h1 | cases h2), Or.inl ⟨rfl, fx_in 225 (by decide +kernel) rfl⟩⟩
theorem lk_FX_21 : fx_lk "FaxPages$Fax" 21 9 3 (.object "FaxPages$BitReader") true false := ⟨_, _, _, _, C_FX, by decide, rfl, rfl, fun h1 h2 => (by first | rfl | cases h1 | cases h2), Or.inl ⟨rfl, fx_in 226 (by decide +kernel) rfl⟩⟩
theorem lk_PI_9 : fx_lk "FaxPages$Picture" 9 10 0 (.array .int) true false := ⟨_, _, _, _, C_PI, by decide, rfl, rfl, fun h1 h2 => (by first | rfl | cases h1 | cases h2), Or.inl ⟨rfl, fx_in 242 (by decide +kernel) rfl⟩⟩
theorem lk_PI_22 : fx_lk "FaxPages$Picture" 22 10 1 (.boolean) false false := ⟨_, _, _, _, C_PI, by decide, rfl, rfl, fun h1 h2 => (by first | rfl | cases h1 | cases h2), Or.inl ⟨rfl, fx_in 243 (by decide +kernel) rfl⟩⟩
theorem lk_FP_102 : fx_lk "FaxPages" 102 10 1 (.boolean) false true := ⟨_, _, _, _, C_PI, by decide, rfl, rfl, fun h1 h2 => (by first | rfl | cases h1 | cases h2), Or.inr ⟨rfl, _, fx_ix (w := .fieldLinkNest "FaxPages" 102 "FaxPages$Picture" "gray" "Z" "FaxPages") 244 (by decide +kernel) rfl⟩⟩
theorem lk_PI_15 : fx_lk "FaxPages$Picture" 15 10 2 (.int) false false := ⟨_, _, _, _, C_PI, by decide, rfl, rfl, fun h1 h2 => (by first | rfl | cases h1 | cases h2), Or.inl ⟨rfl, fx_in 245 (by decide +kernel) rfl⟩⟩
theorem lk_LI_53 : fx_lk "FaxPages$Lines" 53 10 2 (.int) false true := ⟨_, _, _, _, C_PI, by decide, rfl, rfl, fun h1 h2 => (by first | rfl | cases h1 | cases h2), Or.inr ⟨rfl, _, fx_ix (w := .fieldLinkNest "FaxPages$Lines" 53 "FaxPages$Picture" "width" "I" "FaxPages") 246 (by decide +kernel) rfl⟩⟩
theorem lk_FP_114 : fx_lk "FaxPages" 114 10 2 (.int) false true := ⟨_, _, _, _, C_PI, by decide, rfl, rfl, fun h1 h2 => (by first | rfl | cases h1 | cases h2), Or.inr ⟨rfl, _, fx_ix (w := .fieldLinkNest "FaxPages" 114 "FaxPages$Picture" "width" "I" "FaxPages") 247 (by decide +kernel) rfl⟩⟩
theorem lk_PI_19 : fx_lk "FaxPages$Picture" 19 10 3 (.int) false false := ⟨_, _, _, _, C_PI, by decide, rfl, rfl, fun h1 h2 => (by first | rfl | cases h1 | cases h2), Or.inl ⟨rfl, fx_in 248 (by decide +kernel) rfl⟩⟩
theorem lk_FP_118 : fx_lk "FaxPages" 118 10 3 (.int) false true := ⟨_, _, _, _, C_PI, by decide, rfl, rfl, fun h1 h2 => (by first | rfl | cases h1 | cases h2), Or.inr ⟨rfl, _, fx_ix (w := .fieldLinkNest "FaxPages" 118 "FaxPages$Picture" "height" "I" "FaxPages") 249 (by decide +kernel) rfl⟩⟩
theorem lk_FP_20 : fx_lk "FaxPages" 20 0 0 (.object "FaxPages$Bytes") true false := ⟨_, _, _, _, C_FP, by decide, rfl, rfl, fun h1 h2 => (by first | rfl | cases h1 | cases h2), Or.inl ⟨rfl, fx_in 259 (by decide +kernel) rfl⟩⟩
theorem lk_FP_26 : fx_lk "FaxPages" 26 0 1 (.object "FaxPages$BitReader") true false := ⟨_, _, _, _, C_FP, by decide, rfl, rfl, fun h1 h2 => (by first | rfl | cases h1 | cases h2), Or.inl ⟨rfl, fx_in 260 (by decide +kernel) rfl⟩⟩
theorem lk_FP_33 : fx_lk "FaxPages" 33 0 2 (.object "FaxPages$Tags") true false := ⟨_, _, _, _, C_FP, by decide, rfl, rfl, fun h1 h2 => (by first | rfl | cases h1 | cases h2), Or.inl ⟨rfl, fx_in 261 (by decide +kernel) rfl⟩⟩
theorem lk_FP_40 : fx_lk "FaxPages" 40 0 3 (.object "FaxPages$Packing") true false := ⟨_, _, _, _, C_FP, by decide, rfl, rfl, fun h1 h2 => (by first | rfl | cases h1 | cases h2), Or.inl ⟨rfl, fx_in 262 (by decide +kernel) rfl⟩⟩
theorem lk_FP_47 : fx_lk "FaxPages" 47 0 4 (.object "FaxPages$Packing") true false := ⟨_, _, _, _, C_FP, by decide, rfl, rfl, fun h1 h2 => (by first | rfl | cases h1 | cases h2), Or.inl ⟨rfl, fx_in 263 (by decide +kernel) rfl⟩⟩
theorem lk_FP_53 : fx_lk "FaxPages" 53 0 5 (.object "FaxPages$Packing") true false := ⟨_, _, _, _, C_FP, by decide, rfl, rfl, fun h1 h2 => (by first | rfl | cases h1 | cases h2), Or.inl ⟨rfl, fx_in 264 (by decide +kernel) rfl⟩⟩
theorem lk_FP_61 : fx_lk "FaxPages" 61 0 6 (.object "FaxPages$Packing") true false := ⟨_, _, _, _, C_FP, by decide, rfl, rfl, fun h1 h2 => (by first | rfl | cases h1 | cases h2), Or.inl ⟨rfl, fx_in 265 (by decide +kernel) rfl⟩⟩
theorem lk_FP_64 : fx_lk "FaxPages" 64 0 7 (.object "FaxPages$Packing") true false := ⟨_, _, _, _, C_FP, by decide, rfl, rfl, fun h1 h2 => (by first | rfl | cases h1 | cases h2), Or.inl ⟨rfl, fx_in 266 (by decide +kernel) rfl⟩⟩
theorem lk_FP_67 : fx_lk "FaxPages" 67 0 8 (.array .int) true false := ⟨_, _, _, _, C_FP, by decide, rfl, rfl, fun h1 h2 => (by first | rfl | cases h1 | cases h2), Or.inl ⟨rfl, fx_in 267 (by decide +kernel) rfl⟩⟩
theorem lk_FP_71 : fx_lk "FaxPages" 71 0 9 (.array .int) true false := ⟨_, _, _, _, C_FP, by decide, rfl, rfl, fun h1 h2 => (by first | rfl | cases h1 | cases h2), Or.inl ⟨rfl, fx_in 268 (by decide +kernel) rfl⟩⟩
theorem lk_FP_77 : fx_lk "FaxPages" 77 0 10 (.object "FaxPages$Picture") false false := ⟨_, _, _, _, C_FP, by decide, rfl, rfl, fun h1 h2 => (by first | rfl | cases h1 | cases h2), Or.inl ⟨rfl, fx_in 269 (by decide +kernel) rfl⟩⟩
theorem lk_FP_81 : fx_lk "FaxPages" 81 0 11 (.object "FaxPages$Picture") false false := ⟨_, _, _, _, C_FP, by decide, rfl, rfl, fun h1 h2 => (by first | rfl | cases h1 | cases h2), Or.inl ⟨rfl, fx_in 270 (by decide +kernel) rfl⟩⟩
theorem lk_FP_121 : fx_lk "FaxPages" 121 0 12 (.boolean) false false := ⟨_, _, _, _, C_FP, by decide, rfl, rfl, fun h1 h2 => (by first | rfl | cases h1 | cases h2), Or.inl ⟨rfl, fx_in 271 (by decide +kernel) rfl⟩⟩
theorem lk_FP_216 : fx_lk "FaxPages" 216 0 13 (.int) false false := ⟨_, _, _, _, C_FP, by decide, rfl, rfl, fun h1 h2 => (by first | rfl | cases h1 | cases h2), Or.inl ⟨rfl, fx_in 272 (by decide +kernel) rfl⟩⟩
theorem lk_FP_219 : fx_lk "FaxPages" 219 0 14 (.boolean) false false := ⟨_, _, _, _, C_FP, by decide, rfl, rfl, fun h1 h2 => (by first | rfl | cases h1 | cases h2), Or.inl ⟨rfl, fx_in 273 (by decide +kernel) rfl⟩⟩
theorem lk_FP_222 : fx_lk "FaxPages" 222 0 15 (.int) false false := ⟨_, _, _, _, C_FP, by decide, rfl, rfl, fun h1 h2 => (by first | rfl | cases h1 | cases h2), Or.inl ⟨rfl, fx_in 274 (by decide +kernel) rfl⟩⟩
theorem lk_FP_225 : fx_lk "FaxPages" 225 0 16 (.int) false false := ⟨_, _, _, _, C_FP, by decide, rfl, rfl, fun h1 h2 => (by first | rfl | cases h1 | cases h2), Or.inl ⟨rfl, fx_in 275 (by decide +kernel) rfl⟩⟩
theorem ls_FP_260 : fx_ls "FaxPages" 260 0 := ⟨_, rfl, Or.inl (fx_in 857 (by decide +kernel) rfl)⟩
theorem lk_MO_80 : fx_lk "FaxPagesModel" 80 11 0 (.int) false false := ⟨_, _, _, _, C_MO, by decide, rfl, rfl, fun h1 h2 => (by first | rfl | cases h1 | cases h2), Or.inl ⟨rfl, fx_in 896 (by decide +kernel) rfl⟩⟩
theorem lk_MO_97 : fx_lk "FaxPagesModel" 97 11 1 (.boolean) false false := ⟨_, _, _, _, C_MO, by decide, rfl, rfl, fun h1 h2 => (by first | rfl | cases h1 | cases h2), Or.inl ⟨rfl, fx_in 897 (by decide +kernel) rfl⟩⟩
theorem lk_MO_7 : fx_lk "FaxPagesModel" 7 11 2 (.int) false false := ⟨_, _, _, _, C_MO, by decide, rfl, rfl, fun h1 h2 => (by first | rfl | cases h1 | cases h2), Or.inl ⟨rfl, fx_in 898 (by decide +kernel) rfl⟩⟩
theorem lk_MO_13 : fx_lk "FaxPagesModel" 13 11 3 (.int) false false := ⟨_, _, _, _, C_MO, by decide, rfl, rfl, fun h1 h2 => (by first | rfl | cases h1 | cases h2), Or.inl ⟨rfl, fx_in 899 (by decide +kernel) rfl⟩⟩
theorem lk_MO_16 : fx_lk "FaxPagesModel" 16 11 4 (.array .int) true false := ⟨_, _, _, _, C_MO, by decide, rfl, rfl, fun h1 h2 => (by first | rfl | cases h1 | cases h2), Or.inl ⟨rfl, fx_in 900 (by decide +kernel) rfl⟩⟩
theorem lk_MO_105 : fx_lk "FaxPagesModel" 105 11 5 (.int) false false := ⟨_, _, _, _, C_MO, by decide, rfl, rfl, fun h1 h2 => (by first | rfl | cases h1 | cases h2), Or.inl ⟨rfl, fx_in 901 (by decide +kernel) rfl⟩⟩
theorem lk_MO_20 : fx_lk "FaxPagesModel" 20 11 6 (.array .int) true false := ⟨_, _, _, _, C_MO, by decide, rfl, rfl, fun h1 h2 => (by first | rfl | cases h1 | cases h2), Or.inl ⟨rfl, fx_in 902 (by decide +kernel) rfl⟩⟩
theorem lk_MO_23 : fx_lk "FaxPagesModel" 23 11 7 (.int) false false := ⟨_, _, _, _, C_MO, by decide, rfl, rfl, fun h1 h2 => (by first | rfl | cases h1 | cases h2), Or.inl ⟨rfl, fx_in 903 (by decide +kernel) rfl⟩⟩
theorem lk_MO_26 : fx_lk "FaxPagesModel" 26 11 8 (.int) false false := ⟨_, _, _, _, C_MO, by decide, rfl, rfl, fun h1 h2 => (by first | rfl | cases h1 | cases h2), Or.inl ⟨rfl, fx_in 904 (by decide +kernel) rfl⟩⟩
theorem lk_MO_29 : fx_lk "FaxPagesModel" 29 11 9 (.int) false false := ⟨_, _, _, _, C_MO, by decide, rfl, rfl, fun h1 h2 => (by first | rfl | cases h1 | cases h2), Or.inl ⟨rfl, fx_in 905 (by decide +kernel) rfl⟩⟩
theorem lk_MO_32 : fx_lk "FaxPagesModel" 32 11 10 (.int) false false := ⟨_, _, _, _, C_MO, by decide, rfl, rfl, fun h1 h2 => (by first | rfl | cases h1 | cases h2), Or.inl ⟨rfl, fx_in 906 (by decide +kernel) rfl⟩⟩
theorem lk_MO_108 : fx_lk "FaxPagesModel" 108 11 11 (.boolean) false false := ⟨_, _, _, _, C_MO, by decide, rfl, rfl, fun h1 h2 => (by first | rfl | cases h1 | cases h2), Or.inl ⟨rfl, fx_in 907 (by decide +kernel) rfl⟩⟩
theorem lk_MO_180 : fx_lk "FaxPagesModel" 180 11 12 (.int) false false := ⟨_, _, _, _, C_MO, by decide, rfl, rfl, fun h1 h2 => (by first | rfl | cases h1 | cases h2), Or.inl ⟨rfl, fx_in 908 (by decide +kernel) rfl⟩⟩
theorem lk_MO_219 : fx_lk "FaxPagesModel" 219 11 13 (.int) false false := ⟨_, _, _, _, C_MO, by decide, rfl, rfl, fun h1 h2 => (by first | rfl | cases h1 | cases h2), Or.inl ⟨rfl, fx_in 909 (by decide +kernel) rfl⟩⟩
theorem lk_MO_128 : fx_lk "FaxPagesModel" 128 11 14 (.boolean) false false := ⟨_, _, _, _, C_MO, by decide, rfl, rfl, fun h1 h2 => (by first | rfl | cases h1 | cases h2), Or.inl ⟨rfl, fx_in 910 (by decide +kernel) rfl⟩⟩
theorem lk_MO_131 : fx_lk "FaxPagesModel" 131 11 15 (.int) false false := ⟨_, _, _, _, C_MO, by decide, rfl, rfl, fun h1 h2 => (by first | rfl | cases h1 | cases h2), Or.inl ⟨rfl, fx_in 911 (by decide +kernel) rfl⟩⟩
theorem lk_MO_216 : fx_lk "FaxPagesModel" 216 11 16 (.int) false false := ⟨_, _, _, _, C_MO, by decide, rfl, rfl, fun h1 h2 => (by first | rfl | cases h1 | cases h2), Or.inl ⟨rfl, fx_in 912 (by decide +kernel) rfl⟩⟩
theorem lk_MO_35 : fx_lk "FaxPagesModel" 35 11 17 (.array .int) true false := ⟨_, _, _, _, C_MO, by decide, rfl, rfl, fun h1 h2 => (by first | rfl | cases h1 | cases h2), Or.inl ⟨rfl, fx_in 913 (by decide +kernel) rfl⟩⟩
theorem lk_MO_115 : fx_lk "FaxPagesModel" 115 11 18 (.int) false false := ⟨_, _, _, _, C_MO, by decide, rfl, rfl, fun h1 h2 => (by first | rfl | cases h1 | cases h2), Or.inl ⟨rfl, fx_in 914 (by decide +kernel) rfl⟩⟩
theorem lk_MO_118 : fx_lk "FaxPagesModel" 118 11 19 (.int) false false := ⟨_, _, _, _, C_MO, by decide, rfl, rfl, fun h1 h2 => (by first | rfl | cases h1 | cases h2), Or.inl ⟨rfl, fx_in 915 (by decide +kernel) rfl⟩⟩
theorem lk_MO_267 : fx_lk "FaxPagesModel" 267 11 20 (.int) false false := ⟨_, _, _, _, C_MO, by decide, rfl, rfl, fun h1 h2 => (by first | rfl | cases h1 | cases h2), Or.inl ⟨rfl, fx_in 916 (by decide +kernel) rfl⟩⟩
theorem lk_MO_270 : fx_lk "FaxPagesModel" 270 11 21 (.int) false false := ⟨_, _, _, _, C_MO, by decide, rfl, rfl, fun h1 h2 => (by first | rfl | cases h1 | cases h2), Or.inl ⟨rfl, fx_in 917 (by decide +kernel) rfl⟩⟩
theorem lk_MO_264 : fx_lk "FaxPagesModel" 264 11 22 (.boolean) false false := ⟨_, _, _, _, C_MO, by decide, rfl, rfl, fun h1 h2 => (by first | rfl | cases h1 | cases h2), Or.inl ⟨rfl, fx_in 918 (by decide +kernel) rfl⟩⟩
theorem lk_MO_38 : fx_lk "FaxPagesModel" 38 11 23 (.array .int) true false := ⟨_, _, _, _, C_MO, by decide, rfl, rfl, fun h1 h2 => (by first | rfl | cases h1 | cases h2), Or.inl ⟨rfl, fx_in 919 (by decide +kernel) rfl⟩⟩
theorem lk_MO_41 : fx_lk "FaxPagesModel" 41 11 24 (.array .int) true false := ⟨_, _, _, _, C_MO, by decide, rfl, rfl, fun h1 h2 => (by first | rfl | cases h1 | cases h2), Or.inl ⟨rfl, fx_in 920 (by decide +kernel) rfl⟩⟩
theorem lk_MO_44 : fx_lk "FaxPagesModel" 44 11 25 (.array .int) true false := ⟨_, _, _, _, C_MO, by decide, rfl, rfl, fun h1 h2 => (by first | rfl | cases h1 | cases h2), Or.inl ⟨rfl, fx_in 921 (by decide +kernel) rfl⟩⟩
theorem lk_MO_47 : fx_lk "FaxPagesModel" 47 11 26 (.array .int) true false := ⟨_, _, _, _, C_MO, by decide, rfl, rfl, fun h1 h2 => (by first | rfl | cases h1 | cases h2), Or.inl ⟨rfl, fx_in 922 (by decide +kernel) rfl⟩⟩
theorem lk_MO_134 : fx_lk "FaxPagesModel" 134 11 27 (.int) false false := ⟨_, _, _, _, C_MO, by decide, rfl, rfl, fun h1 h2 => (by first | rfl | cases h1 | cases h2), Or.inl ⟨rfl, fx_in 923 (by decide +kernel) rfl⟩⟩
theorem lk_MO_141 : fx_lk "FaxPagesModel" 141 11 28 (.int) false false := ⟨_, _, _, _, C_MO, by decide, rfl, rfl, fun h1 h2 => (by first | rfl | cases h1 | cases h2), Or.inl ⟨rfl, fx_in 924 (by decide +kernel) rfl⟩⟩
theorem lk_MO_50 : fx_lk "FaxPagesModel" 50 11 29 (.array .int) true false := ⟨_, _, _, _, C_MO, by decide, rfl, rfl, fun h1 h2 => (by first | rfl | cases h1 | cases h2), Or.inl ⟨rfl, fx_in 925 (by decide +kernel) rfl⟩⟩
theorem lk_MO_53 : fx_lk "FaxPagesModel" 53 11 30 (.array .int) true false := ⟨_, _, _, _, C_MO, by decide, rfl, rfl, fun h1 h2 => (by first | rfl | cases h1 | cases h2), Or.inl ⟨rfl, fx_in 926 (by decide +kernel) rfl⟩⟩
theorem lk_MO_56 : fx_lk "FaxPagesModel" 56 11 31 (.array .int) true false := ⟨_, _, _, _, C_MO, by decide, rfl, rfl, fun h1 h2 => (by first | rfl | cases h1 | cases h2), Or.inl ⟨rfl, fx_in 927 (by decide +kernel) rfl⟩⟩
theorem lk_MO_59 : fx_lk "FaxPagesModel" 59 11 32 (.array .int) true false := ⟨_, _, _, _, C_MO, by decide, rfl, rfl, fun h1 h2 => (by first | rfl | cases h1 | cases h2), Or.inl ⟨rfl, fx_in 928 (by decide +kernel) rfl⟩⟩
theorem lk_MO_62 : fx_lk "FaxPagesModel" 62 11 33 (.array .boolean) true false := ⟨_, _, _, _, C_MO, by decide, rfl, rfl, fun h1 h2 => (by first | rfl | cases h1 | cases h2), Or.inl ⟨rfl, fx_in 929 (by decide +kernel) rfl⟩⟩
theorem lk_MO_66 : fx_lk "FaxPagesModel" 66 11 34 (.array .int) true false := ⟨_, _, _, _, C_MO, by decide, rfl, rfl, fun h1 h2 => (by first | rfl | cases h1 | cases h2), Or.inl ⟨rfl, fx_in 930 (by decide +kernel) rfl⟩⟩
theorem lk_MO_69 : fx_lk "FaxPagesModel" 69 11 35 (.array .long) true false := ⟨_, _, _, _, C_MO, by decide, rfl, rfl, fun h1 h2 => (by first | rfl | cases h1 | cases h2), Or.inl ⟨rfl, fx_in 931 (by decide +kernel) rfl⟩⟩
theorem lk_MO_73 : fx_lk "FaxPagesModel" 73 11 36 (.array .long) true false := ⟨_, _, _, _, C_MO, by decide, rfl, rfl, fun h1 h2 => (by first | rfl | cases h1 | cases h2), Or.inl ⟨rfl, fx_in 932 (by decide +kernel) rfl⟩⟩
theorem i_FP : Cond.initialized "FaxPages" ∈ fx_tb := fx_in 1 (by decide +kernel) rfl
theorem k_FP_init : Cond.code M_FP_init.1 M_FP_init.2.1 M_FP_init.2.2.1 M_FP_init.2.2.2.1 ∈ fx_tb := fx_in 25 (by decide +kernel) rfl
theorem p_FP_init : M_FP_init.1.cls ≠ "java/lang/invoke/MethodHandle" ∧ M_FP_init.1.cls ≠ "java/lang/invoke/VarHandle" ∧ (parseMethodDescriptor M_FP_init.1.desc).map (fun d => d.parameters.length) = some 0 := ⟨by decide, by decide, (by decide +kernel)⟩
theorem v_FP_init : Cond.instanceMethod M_FP_init.1 ∈ fx_tb := fx_in 24 (by decide +kernel) rfl
theorem i_BY : Cond.initialized "FaxPages$Bytes" ∈ fx_tb := fx_in 2 (by decide +kernel) rfl
theorem k_BY_init : Cond.code M_BY_init.1 M_BY_init.2.1 M_BY_init.2.2.1 M_BY_init.2.2.2.1 ∈ fx_tb := fx_in 33 (by decide +kernel) rfl
theorem p_BY_init : M_BY_init.1.cls ≠ "java/lang/invoke/MethodHandle" ∧ M_BY_init.1.cls ≠ "java/lang/invoke/VarHandle" ∧ (parseMethodDescriptor M_BY_init.1.desc).map (fun d => d.parameters.length) = some 0 := ⟨by decide, by decide, (by decide +kernel)⟩
theorem v_BY_init : Cond.instanceMethod M_BY_init.1 ∈ fx_tb := fx_in 32 (by decide +kernel) rfl
theorem i_BR : Cond.initialized "FaxPages$BitReader" ∈ fx_tb := fx_in 3 (by decide +kernel) rfl
theorem k_BR_init : Cond.code M_BR_init.1 M_BR_init.2.1 M_BR_init.2.2.1 M_BR_init.2.2.2.1 ∈ fx_tb := fx_in 56 (by decide +kernel) rfl
theorem p_BR_init : M_BR_init.1.cls ≠ "java/lang/invoke/MethodHandle" ∧ M_BR_init.1.cls ≠ "java/lang/invoke/VarHandle" ∧ (parseMethodDescriptor M_BR_init.1.desc).map (fun d => d.parameters.length) = some 1 := ⟨by decide, by decide, (by decide +kernel)⟩
theorem v_BR_init : Cond.instanceMethod M_BR_init.1 ∈ fx_tb := fx_in 55 (by decide +kernel) rfl
theorem i_LI : Cond.initialized "FaxPages$Lines" ∈ fx_tb := fx_in 4 (by decide +kernel) rfl
theorem k_LI_init : Cond.code M_LI_init.1 M_LI_init.2.1 M_LI_init.2.2.1 M_LI_init.2.2.2.1 ∈ fx_tb := fx_in 72 (by decide +kernel) rfl
theorem p_LI_init : M_LI_init.1.cls ≠ "java/lang/invoke/MethodHandle" ∧ M_LI_init.1.cls ≠ "java/lang/invoke/VarHandle" ∧ (parseMethodDescriptor M_LI_init.1.desc).map (fun d => d.parameters.length) = some 2 := ⟨by decide, by decide, (by decide +kernel)⟩
theorem v_LI_init : Cond.instanceMethod M_LI_init.1 ∈ fx_tb := fx_in 71 (by decide +kernel) rfl
theorem i_CT : Cond.initialized "FaxPages$CodeTree" ∈ fx_tb := fx_in 5 (by decide +kernel) rfl
theorem k_CT_init : Cond.code M_CT_init.1 M_CT_init.2.1 M_CT_init.2.2.1 M_CT_init.2.2.2.1 ∈ fx_tb := fx_in 80 (by decide +kernel) rfl
theorem p_CT_init : M_CT_init.1.cls ≠ "java/lang/invoke/MethodHandle" ∧ M_CT_init.1.cls ≠ "java/lang/invoke/VarHandle" ∧ (parseMethodDescriptor M_CT_init.1.desc).map (fun d => d.parameters.length) = some 1 := ⟨by decide, by decide, (by decide +kernel)⟩
theorem v_CT_init : Cond.instanceMethod M_CT_init.1 ∈ fx_tb := fx_in 79 (by decide +kernel) rfl
theorem k_FP_lengthOf : Cond.code M_FP_lengthOf.1 M_FP_lengthOf.2.1 M_FP_lengthOf.2.2.1 M_FP_lengthOf.2.2.2.1 ∈ fx_tb := fx_in 84 (by decide +kernel) rfl
theorem p_FP_lengthOf : M_FP_lengthOf.1.cls ≠ "java/lang/invoke/MethodHandle" ∧ M_FP_lengthOf.1.cls ≠ "java/lang/invoke/VarHandle" ∧ (parseMethodDescriptor M_FP_lengthOf.1.desc).map (fun d => d.parameters.length) = some 1 := ⟨by decide, by decide, (by decide +kernel)⟩
theorem v_FP_lengthOf : Cond.static M_FP_lengthOf.1 ∈ fx_tb := fx_in 83 (by decide +kernel) rfl
theorem i_TG : Cond.initialized "FaxPages$Tags" ∈ fx_tb := fx_in 7 (by decide +kernel) rfl
theorem k_TG_init : Cond.code M_TG_init.1 M_TG_init.2.1 M_TG_init.2.2.1 M_TG_init.2.2.2.1 ∈ fx_tb := fx_in 116 (by decide +kernel) rfl
theorem p_TG_init : M_TG_init.1.cls ≠ "java/lang/invoke/MethodHandle" ∧ M_TG_init.1.cls ≠ "java/lang/invoke/VarHandle" ∧ (parseMethodDescriptor M_TG_init.1.desc).map (fun d => d.parameters.length) = some 1 := ⟨by decide, by decide, (by decide +kernel)⟩
theorem v_TG_init : Cond.instanceMethod M_TG_init.1 ∈ fx_tb := fx_in 115 (by decide +kernel) rfl
theorem i_PL : Cond.initialized "FaxPages$Plain" ∈ fx_tb := fx_in 8 (by decide +kernel) rfl
theorem k_PL_init : Cond.code M_PL_init.1 M_PL_init.2.1 M_PL_init.2.2.1 M_PL_init.2.2.2.1 ∈ fx_tb := fx_in 155 (by decide +kernel) rfl
theorem p_PL_init : M_PL_init.1.cls ≠ "java/lang/invoke/MethodHandle" ∧ M_PL_init.1.cls ≠ "java/lang/invoke/VarHandle" ∧ (parseMethodDescriptor M_PL_init.1.desc).map (fun d => d.parameters.length) = some 2 := ⟨by decide, by decide, (by decide +kernel)⟩
theorem v_PL_init : Cond.instanceMethod M_PL_init.1 ∈ fx_tb := fx_in 154 (by decide +kernel) rfl
theorem i_RU : Cond.initialized "FaxPages$Runs" ∈ fx_tb := fx_in 9 (by decide +kernel) rfl
theorem k_RU_init : Cond.code M_RU_init.1 M_RU_init.2.1 M_RU_init.2.2.1 M_RU_init.2.2.2.1 ∈ fx_tb := fx_in 168 (by decide +kernel) rfl
theorem p_RU_init : M_RU_init.1.cls ≠ "java/lang/invoke/MethodHandle" ∧ M_RU_init.1.cls ≠ "java/lang/invoke/VarHandle" ∧ (parseMethodDescriptor M_RU_init.1.desc).map (fun d => d.parameters.length) = some 2 := ⟨by decide, by decide, (by decide +kernel)⟩
theorem v_RU_init : Cond.instanceMethod M_RU_init.1 ∈ fx_tb := fx_in 167 (by decide +kernel) rfl
theorem i_TA : Cond.initialized "FaxPages$Table" ∈ fx_tb := fx_in 10 (by decide +kernel) rfl
theorem k_TA_init : Cond.code M_TA_init.1 M_TA_init.2.1 M_TA_init.2.2.1 M_TA_init.2.2.2.1 ∈ fx_tb := fx_in 184 (by decide +kernel) rfl
theorem p_TA_init : M_TA_init.1.cls ≠ "java/lang/invoke/MethodHandle" ∧ M_TA_init.1.cls ≠ "java/lang/invoke/VarHandle" ∧ (parseMethodDescriptor M_TA_init.1.desc).map (fun d => d.parameters.length) = some 2 := ⟨by decide, by decide, (by decide +kernel)⟩
theorem v_TA_init : Cond.instanceMethod M_TA_init.1 ∈ fx_tb := fx_in 183 (by decide +kernel) rfl
theorem i_FX : Cond.initialized "FaxPages$Fax" ∈ fx_tb := fx_in 11 (by decide +kernel) rfl
theorem k_FX_init : Cond.code M_FX_init.1 M_FX_init.2.1 M_FX_init.2.2.1 M_FX_init.2.2.2.1 ∈ fx_tb := fx_in 221 (by decide +kernel) rfl
theorem p_FX_init : M_FX_init.1.cls ≠ "java/lang/invoke/MethodHandle" ∧ M_FX_init.1.cls ≠ "java/lang/invoke/VarHandle" ∧ (parseMethodDescriptor M_FX_init.1.desc).map (fun d => d.parameters.length) = some 4 := ⟨by decide, by decide, (by decide +kernel)⟩
theorem v_FX_init : Cond.instanceMethod M_FX_init.1 ∈ fx_tb := fx_in 220 (by decide +kernel) rfl
theorem i_PI : Cond.initialized "FaxPages$Picture" ∈ fx_tb := fx_in 12 (by decide +kernel) rfl
theorem k_PI_init : Cond.code M_PI_init.1 M_PI_init.2.1 M_PI_init.2.2.1 M_PI_init.2.2.2.1 ∈ fx_tb := fx_in 240 (by decide +kernel) rfl
theorem p_PI_init : M_PI_init.1.cls ≠ "java/lang/invoke/MethodHandle" ∧ M_PI_init.1.cls ≠ "java/lang/invoke/VarHandle" ∧ (parseMethodDescriptor M_PI_init.1.desc).map (fun d => d.parameters.length) = some 0 := ⟨by decide, by decide, (by decide +kernel)⟩
theorem v_PI_init : Cond.instanceMethod M_PI_init.1 ∈ fx_tb := fx_in 239 (by decide +kernel) rfl
theorem k_FP_get : Cond.code M_FP_get.1 M_FP_get.2.1 M_FP_get.2.2.1 M_FP_get.2.2.2.1 ∈ fx_tb := fx_in 314 (by decide +kernel) rfl
theorem p_FP_get : M_FP_get.1.cls ≠ "java/lang/invoke/MethodHandle" ∧ M_FP_get.1.cls ≠ "java/lang/invoke/VarHandle" ∧ (parseMethodDescriptor M_FP_get.1.desc).map (fun d => d.parameters.length) = some 2 := ⟨by decide, by decide, (by decide +kernel)⟩
theorem v_FP_get : Cond.instanceMethod M_FP_get.1 ∈ fx_tb := fx_in 312 (by decide +kernel) rfl
theorem s_FP_get : Cond.selects M_FP_get.1.cls M_FP_get.1 M_FP_get.1 ∈ fx_tb := fx_in 313 (by decide +kernel) rfl
theorem k_PI_has : Cond.code M_PI_has.1 M_PI_has.2.1 M_PI_has.2.2.1 M_PI_has.2.2.2.1 ∈ fx_tb := fx_in 318 (by decide +kernel) rfl
theorem p_PI_has : M_PI_has.1.cls ≠ "java/lang/invoke/MethodHandle" ∧ M_PI_has.1.cls ≠ "java/lang/invoke/VarHandle" ∧ (parseMethodDescriptor M_PI_has.1.desc).map (fun d => d.parameters.length) = some 2 := ⟨by decide, by decide, (by decide +kernel)⟩
theorem v_PI_has : Cond.instanceMethod M_PI_has.1 ∈ fx_tb := fx_in 317 (by decide +kernel) rfl
theorem s_PI_has : Cond.selects M_PI_has.1.cls M_PI_has.1 M_PI_has.1 ∈ fx_tb := fx_is (y := ⟨"FaxPages$Picture", "has", "(II)Z"⟩) 0 4 (by decide +kernel)
theorem k_PI_pixel : Cond.code M_PI_pixel.1 M_PI_pixel.2.1 M_PI_pixel.2.2.1 M_PI_pixel.2.2.2.1 ∈ fx_tb := fx_in 322 (by decide +kernel) rfl
theorem p_PI_pixel : M_PI_pixel.1.cls ≠ "java/lang/invoke/MethodHandle" ∧ M_PI_pixel.1.cls ≠ "java/lang/invoke/VarHandle" ∧ (parseMethodDescriptor M_PI_pixel.1.desc).map (fun d => d.parameters.length) = some 2 := ⟨by decide, by decide, (by decide +kernel)⟩
theorem v_PI_pixel : Cond.instanceMethod M_PI_pixel.1 ∈ fx_tb := fx_in 321 (by decide +kernel) rfl
theorem s_PI_pixel : Cond.selects M_PI_pixel.1.cls M_PI_pixel.1 M_PI_pixel.1 ∈ fx_tb := fx_is (y := ⟨"FaxPages$Picture", "pixel", "(II)I"⟩) 1 4 (by decide +kernel)
theorem k_FP_info : Cond.code M_FP_info.1 M_FP_info.2.1 M_FP_info.2.2.1 M_FP_info.2.2.2.1 ∈ fx_tb := fx_in 327 (by decide +kernel) rfl
theorem p_FP_info : M_FP_info.1.cls ≠ "java/lang/invoke/MethodHandle" ∧ M_FP_info.1.cls ≠ "java/lang/invoke/VarHandle" ∧ (parseMethodDescriptor M_FP_info.1.desc).map (fun d => d.parameters.length) = some 1 := ⟨by decide, by decide, (by decide +kernel)⟩
theorem v_FP_info : Cond.instanceMethod M_FP_info.1 ∈ fx_tb := fx_in 325 (by decide +kernel) rfl
theorem s_FP_info : Cond.selects M_FP_info.1.cls M_FP_info.1 M_FP_info.1 ∈ fx_tb := fx_in 326 (by decide +kernel) rfl
theorem k_FP_infoOfFile : Cond.code M_FP_infoOfFile.1 M_FP_infoOfFile.2.1 M_FP_infoOfFile.2.2.1 M_FP_infoOfFile.2.2.2.1 ∈ fx_tb := fx_in 331 (by decide +kernel) rfl
theorem p_FP_infoOfFile : M_FP_infoOfFile.1.cls ≠ "java/lang/invoke/MethodHandle" ∧ M_FP_infoOfFile.1.cls ≠ "java/lang/invoke/VarHandle" ∧ (parseMethodDescriptor M_FP_infoOfFile.1.desc).map (fun d => d.parameters.length) = some 1 := ⟨by decide, by decide, (by decide +kernel)⟩
theorem v_FP_infoOfFile : Cond.instanceMethod M_FP_infoOfFile.1 ∈ fx_tb := fx_in 330 (by decide +kernel) rfl
theorem s_FP_infoOfFile : Cond.selects M_FP_infoOfFile.1.cls M_FP_infoOfFile.1 M_FP_infoOfFile.1 ∈ fx_tb := fx_is (y := ⟨"FaxPages", "infoOfFile", "(I)I"⟩) 2 17 (by decide +kernel)
theorem k_FP_read : Cond.code M_FP_read.1 M_FP_read.2.1 M_FP_read.2.2.1 M_FP_read.2.2.2.1 ∈ fx_tb := fx_in 335 (by decide +kernel) rfl
theorem p_FP_read : M_FP_read.1.cls ≠ "java/lang/invoke/MethodHandle" ∧ M_FP_read.1.cls ≠ "java/lang/invoke/VarHandle" ∧ (parseMethodDescriptor M_FP_read.1.desc).map (fun d => d.parameters.length) = some 0 := ⟨by decide, by decide, (by decide +kernel)⟩
theorem v_FP_read : Cond.instanceMethod M_FP_read.1 ∈ fx_tb := fx_in 333 (by decide +kernel) rfl
theorem s_FP_read : Cond.selects M_FP_read.1.cls M_FP_read.1 M_FP_read.1 ∈ fx_tb := fx_in 334 (by decide +kernel) rfl
theorem k_BY_understandHeader : Cond.code M_BY_understandHeader.1 M_BY_understandHeader.2.1 M_BY_understandHeader.2.2.1 M_BY_understandHeader.2.2.2.1 ∈ fx_tb := fx_in 339 (by decide +kernel) rfl
theorem p_BY_understandHeader : M_BY_understandHeader.1.cls ≠ "java/lang/invoke/MethodHandle" ∧ M_BY_understandHeader.1.cls ≠ "java/lang/invoke/VarHandle" ∧ (parseMethodDescriptor M_BY_understandHeader.1.desc).map (fun d => d.parameters.length) = some 0 := ⟨by decide, by decide, (by decide +kernel)⟩
theorem v_BY_understandHeader : Cond.instanceMethod M_BY_understandHeader.1 ∈ fx_tb := fx_in 338 (by decide +kernel) rfl
theorem s_BY_understandHeader : Cond.selects M_BY_understandHeader.1.cls M_BY_understandHeader.1 M_BY_understandHeader.1 ∈ fx_tb := fx_is (y := ⟨"FaxPages$Bytes", "understandHeader", "()Z"⟩) 3 4 (by decide +kernel)
theorem k_BY_byteAt : Cond.code M_BY_byteAt.1 M_BY_byteAt.2.1 M_BY_byteAt.2.2.1 M_BY_byteAt.2.2.2.1 ∈ fx_tb := fx_in 343 (by decide +kernel) rfl
theorem p_BY_byteAt : M_BY_byteAt.1.cls ≠ "java/lang/invoke/MethodHandle" ∧ M_BY_byteAt.1.cls ≠ "java/lang/invoke/VarHandle" ∧ (parseMethodDescriptor M_BY_byteAt.1.desc).map (fun d => d.parameters.length) = some 1 := ⟨by decide, by decide, (by decide +kernel)⟩
theorem v_BY_byteAt : Cond.instanceMethod M_BY_byteAt.1 ∈ fx_tb := fx_in 342 (by decide +kernel) rfl
theorem s_BY_byteAt : Cond.selects M_BY_byteAt.1.cls M_BY_byteAt.1 M_BY_byteAt.1 ∈ fx_tb := fx_is (y := ⟨"FaxPages$Bytes", "byteAt", "(I)I"⟩) 4 4 (by decide +kernel)
theorem k_BY_numberAt : Cond.code M_BY_numberAt.1 M_BY_numberAt.2.1 M_BY_numberAt.2.2.1 M_BY_numberAt.2.2.2.1 ∈ fx_tb := fx_in 347 (by decide +kernel) rfl
theorem p_BY_numberAt : M_BY_numberAt.1.cls ≠ "java/lang/invoke/MethodHandle" ∧ M_BY_numberAt.1.cls ≠ "java/lang/invoke/VarHandle" ∧ (parseMethodDescriptor M_BY_numberAt.1.desc).map (fun d => d.parameters.length) = some 2 := ⟨by decide, by decide, (by decide +kernel)⟩
theorem v_BY_numberAt : Cond.instanceMethod M_BY_numberAt.1 ∈ fx_tb := fx_in 346 (by decide +kernel) rfl
theorem s_BY_numberAt : Cond.selects M_BY_numberAt.1.cls M_BY_numberAt.1 M_BY_numberAt.1 ∈ fx_tb := fx_is (y := ⟨"FaxPages$Bytes", "numberAt", "(II)J"⟩) 5 4 (by decide +kernel)
theorem k_BY_shiftOf : Cond.code M_BY_shiftOf.1 M_BY_shiftOf.2.1 M_BY_shiftOf.2.2.1 M_BY_shiftOf.2.2.2.1 ∈ fx_tb := fx_in 351 (by decide +kernel) rfl
theorem p_BY_shiftOf : M_BY_shiftOf.1.cls ≠ "java/lang/invoke/MethodHandle" ∧ M_BY_shiftOf.1.cls ≠ "java/lang/invoke/VarHandle" ∧ (parseMethodDescriptor M_BY_shiftOf.1.desc).map (fun d => d.parameters.length) = some 2 := ⟨by decide, by decide, (by decide +kernel)⟩
theorem v_BY_shiftOf : Cond.instanceMethod M_BY_shiftOf.1 ∈ fx_tb := fx_in 350 (by decide +kernel) rfl
theorem s_BY_shiftOf : Cond.selects M_BY_shiftOf.1.cls M_BY_shiftOf.1 M_BY_shiftOf.1 ∈ fx_tb := fx_is (y := ⟨"FaxPages$Bytes", "shiftOf", "(II)I"⟩) 6 4 (by decide +kernel)
theorem k_TG_understand : Cond.code M_TG_understand.1 M_TG_understand.2.1 M_TG_understand.2.2.1 M_TG_understand.2.2.2.1 ∈ fx_tb := fx_in 356 (by decide +kernel) rfl
theorem p_TG_understand : M_TG_understand.1.cls ≠ "java/lang/invoke/MethodHandle" ∧ M_TG_understand.1.cls ≠ "java/lang/invoke/VarHandle" ∧ (parseMethodDescriptor M_TG_understand.1.desc).map (fun d => d.parameters.length) = some 0 := ⟨by decide, by decide, (by decide +kernel)⟩
theorem v_TG_understand : Cond.instanceMethod M_TG_understand.1 ∈ fx_tb := fx_in 355 (by decide +kernel) rfl
theorem s_TG_understand : Cond.selects M_TG_understand.1.cls M_TG_understand.1 M_TG_understand.1 ∈ fx_tb := fx_is (y := ⟨"FaxPages$Tags", "understand", "()Z"⟩) 7 8 (by decide +kernel)
theorem k_TG_findTags : Cond.code M_TG_findTags.1 M_TG_findTags.2.1 M_TG_findTags.2.2.1 M_TG_findTags.2.2.2.1 ∈ fx_tb := fx_in 360 (by decide +kernel) rfl
theorem p_TG_findTags : M_TG_findTags.1.cls ≠ "java/lang/invoke/MethodHandle" ∧ M_TG_findTags.1.cls ≠ "java/lang/invoke/VarHandle" ∧ (parseMethodDescriptor M_TG_findTags.1.desc).map (fun d => d.parameters.length) = some 0 := ⟨by decide, by decide, (by decide +kernel)⟩
theorem v_TG_findTags : Cond.instanceMethod M_TG_findTags.1 ∈ fx_tb := fx_in 359 (by decide +kernel) rfl
theorem s_TG_findTags : Cond.selects M_TG_findTags.1.cls M_TG_findTags.1 M_TG_findTags.1 ∈ fx_tb := fx_is (y := ⟨"FaxPages$Tags", "findTags", "()Z"⟩) 8 8 (by decide +kernel)
theorem i_AR : Cond.initialized "java/util/Arrays" ∈ fx_tb := fx_in 18 (by decide +kernel) rfl
theorem k_AR_fill : Cond.code M_AR_fill.1 M_AR_fill.2.1 M_AR_fill.2.2.1 M_AR_fill.2.2.2.1 ∈ fx_tb := fx_in 363 (by decide +kernel) rfl
theorem p_AR_fill : M_AR_fill.1.cls ≠ "java/lang/invoke/MethodHandle" ∧ M_AR_fill.1.cls ≠ "java/lang/invoke/VarHandle" ∧ (parseMethodDescriptor M_AR_fill.1.desc).map (fun d => d.parameters.length) = some 2 := ⟨by decide, by decide, (by decide +kernel)⟩
theorem v_AR_fill : Cond.static M_AR_fill.1 ∈ fx_tb := fx_in 362 (by decide +kernel) rfl
theorem k_TG_note : Cond.code M_TG_note.1 M_TG_note.2.1 M_TG_note.2.2.1 M_TG_note.2.2.2.1 ∈ fx_tb := fx_in 369 (by decide +kernel) rfl
theorem p_TG_note : M_TG_note.1.cls ≠ "java/lang/invoke/MethodHandle" ∧ M_TG_note.1.cls ≠ "java/lang/invoke/VarHandle" ∧ (parseMethodDescriptor M_TG_note.1.desc).map (fun d => d.parameters.length) = some 2 := ⟨by decide, by decide, (by decide +kernel)⟩
theorem v_TG_note : Cond.instanceMethod M_TG_note.1 ∈ fx_tb := fx_in 368 (by decide +kernel) rfl
theorem s_TG_note : Cond.selects M_TG_note.1.cls M_TG_note.1 M_TG_note.1 ∈ fx_tb := fx_is (y := ⟨"FaxPages$Tags", "note", "(II)V"⟩) 9 8 (by decide +kernel)
theorem k_TG_understandPicture : Cond.code M_TG_understandPicture.1 M_TG_understandPicture.2.1 M_TG_understandPicture.2.2.1 M_TG_understandPicture.2.2.2.1 ∈ fx_tb := fx_in 373 (by decide +kernel) rfl
theorem p_TG_understandPicture : M_TG_understandPicture.1.cls ≠ "java/lang/invoke/MethodHandle" ∧ M_TG_understandPicture.1.cls ≠ "java/lang/invoke/VarHandle" ∧ (parseMethodDescriptor M_TG_understandPicture.1.desc).map (fun d => d.parameters.length) = some 0 := ⟨by decide, by decide, (by decide +kernel)⟩
theorem v_TG_understandPicture : Cond.instanceMethod M_TG_understandPicture.1 ∈ fx_tb := fx_in 372 (by decide +kernel) rfl
theorem s_TG_understandPicture : Cond.selects M_TG_understandPicture.1.cls M_TG_understandPicture.1 M_TG_understandPicture.1 ∈ fx_tb := fx_is (y := ⟨"FaxPages$Tags", "understandPicture", "()Z"⟩) 10 8 (by decide +kernel)
theorem k_TG_onlyValue : Cond.code M_TG_onlyValue.1 M_TG_onlyValue.2.1 M_TG_onlyValue.2.2.1 M_TG_onlyValue.2.2.2.1 ∈ fx_tb := fx_in 377 (by decide +kernel) rfl
theorem p_TG_onlyValue : M_TG_onlyValue.1.cls ≠ "java/lang/invoke/MethodHandle" ∧ M_TG_onlyValue.1.cls ≠ "java/lang/invoke/VarHandle" ∧ (parseMethodDescriptor M_TG_onlyValue.1.desc).map (fun d => d.parameters.length) = some 1 := ⟨by decide, by decide, (by decide +kernel)⟩
theorem v_TG_onlyValue : Cond.instanceMethod M_TG_onlyValue.1 ∈ fx_tb := fx_in 376 (by decide +kernel) rfl
theorem s_TG_onlyValue : Cond.selects M_TG_onlyValue.1.cls M_TG_onlyValue.1 M_TG_onlyValue.1 ∈ fx_tb := fx_is (y := ⟨"FaxPages$Tags", "onlyValue", "(I)J"⟩) 11 8 (by decide +kernel)
theorem k_TG_hasValues : Cond.code M_TG_hasValues.1 M_TG_hasValues.2.1 M_TG_hasValues.2.2.1 M_TG_hasValues.2.2.2.1 ∈ fx_tb := fx_in 381 (by decide +kernel) rfl
theorem p_TG_hasValues : M_TG_hasValues.1.cls ≠ "java/lang/invoke/MethodHandle" ∧ M_TG_hasValues.1.cls ≠ "java/lang/invoke/VarHandle" ∧ (parseMethodDescriptor M_TG_hasValues.1.desc).map (fun d => d.parameters.length) = some 2 := ⟨by decide, by decide, (by decide +kernel)⟩
theorem v_TG_hasValues : Cond.instanceMethod M_TG_hasValues.1 ∈ fx_tb := fx_in 380 (by decide +kernel) rfl
theorem s_TG_hasValues : Cond.selects M_TG_hasValues.1.cls M_TG_hasValues.1 M_TG_hasValues.1 ∈ fx_tb := fx_is (y := ⟨"FaxPages$Tags", "hasValues", "(II)Z"⟩) 12 8 (by decide +kernel)
theorem k_TG_placeOf : Cond.code M_TG_placeOf.1 M_TG_placeOf.2.1 M_TG_placeOf.2.2.1 M_TG_placeOf.2.2.2.1 ∈ fx_tb := fx_in 385 (by decide +kernel) rfl
theorem p_TG_placeOf : M_TG_placeOf.1.cls ≠ "java/lang/invoke/MethodHandle" ∧ M_TG_placeOf.1.cls ≠ "java/lang/invoke/VarHandle" ∧ (parseMethodDescriptor M_TG_placeOf.1.desc).map (fun d => d.parameters.length) = some 1 := ⟨by decide, by decide, (by decide +kernel)⟩
theorem v_TG_placeOf : Cond.instanceMethod M_TG_placeOf.1 ∈ fx_tb := fx_in 384 (by decide +kernel) rfl
theorem s_TG_placeOf : Cond.selects M_TG_placeOf.1.cls M_TG_placeOf.1 M_TG_placeOf.1 ∈ fx_tb := fx_is (y := ⟨"FaxPages$Tags", "placeOf", "(I)I"⟩) 13 8 (by decide +kernel)
theorem k_TG_bytesOfValue : Cond.code M_TG_bytesOfValue.1 M_TG_bytesOfValue.2.1 M_TG_bytesOfValue.2.2.1 M_TG_bytesOfValue.2.2.2.1 ∈ fx_tb := fx_in 391 (by decide +kernel) rfl
theorem p_TG_bytesOfValue : M_TG_bytesOfValue.1.cls ≠ "java/lang/invoke/MethodHandle" ∧ M_TG_bytesOfValue.1.cls ≠ "java/lang/invoke/VarHandle" ∧ (parseMethodDescriptor M_TG_bytesOfValue.1.desc).map (fun d => d.parameters.length) = some 1 := ⟨by decide, by decide, (by decide +kernel)⟩
theorem v_TG_bytesOfValue : Cond.instanceMethod M_TG_bytesOfValue.1 ∈ fx_tb := fx_in 390 (by decide +kernel) rfl
theorem s_TG_bytesOfValue : Cond.selects M_TG_bytesOfValue.1.cls M_TG_bytesOfValue.1 M_TG_bytesOfValue.1 ∈ fx_tb := fx_is (y := ⟨"FaxPages$Tags", "bytesOfValue", "(I)I"⟩) 14 8 (by decide +kernel)
theorem k_TG_valueOf : Cond.code M_TG_valueOf.1 M_TG_valueOf.2.1 M_TG_valueOf.2.2.1 M_TG_valueOf.2.2.2.1 ∈ fx_tb := fx_in 395 (by decide +kernel) rfl
theorem p_TG_valueOf : M_TG_valueOf.1.cls ≠ "java/lang/invoke/MethodHandle" ∧ M_TG_valueOf.1.cls ≠ "java/lang/invoke/VarHandle" ∧ (parseMethodDescriptor M_TG_valueOf.1.desc).map (fun d => d.parameters.length) = some 2 := ⟨by decide, by decide, (by decide +kernel)⟩
theorem v_TG_valueOf : Cond.instanceMethod M_TG_valueOf.1 ∈ fx_tb := fx_in 394 (by decide +kernel) rfl
theorem s_TG_valueOf : Cond.selects M_TG_valueOf.1.cls M_TG_valueOf.1 M_TG_valueOf.1 ∈ fx_tb := fx_is (y := ⟨"FaxPages$Tags", "valueOf", "(II)J"⟩) 15 8 (by decide +kernel)
theorem k_FP_sizeCanBe : Cond.code M_FP_sizeCanBe.1 M_FP_sizeCanBe.2.1 M_FP_sizeCanBe.2.2.1 M_FP_sizeCanBe.2.2.2.1 ∈ fx_tb := fx_in 400 (by decide +kernel) rfl
theorem p_FP_sizeCanBe : M_FP_sizeCanBe.1.cls ≠ "java/lang/invoke/MethodHandle" ∧ M_FP_sizeCanBe.1.cls ≠ "java/lang/invoke/VarHandle" ∧ (parseMethodDescriptor M_FP_sizeCanBe.1.desc).map (fun d => d.parameters.length) = some 3 := ⟨by decide, by decide, (by decide +kernel)⟩
theorem v_FP_sizeCanBe : Cond.static M_FP_sizeCanBe.1 ∈ fx_tb := fx_in 399 (by decide +kernel) rfl
theorem k_TG_understandScheme : Cond.code M_TG_understandScheme.1 M_TG_understandScheme.2.1 M_TG_understandScheme.2.2.1 M_TG_understandScheme.2.2.2.1 ∈ fx_tb := fx_in 404 (by decide +kernel) rfl
theorem p_TG_understandScheme : M_TG_understandScheme.1.cls ≠ "java/lang/invoke/MethodHandle" ∧ M_TG_understandScheme.1.cls ≠ "java/lang/invoke/VarHandle" ∧ (parseMethodDescriptor M_TG_understandScheme.1.desc).map (fun d => d.parameters.length) = some 0 := ⟨by decide, by decide, (by decide +kernel)⟩
theorem v_TG_understandScheme : Cond.instanceMethod M_TG_understandScheme.1 ∈ fx_tb := fx_in 403 (by decide +kernel) rfl
theorem s_TG_understandScheme : Cond.selects M_TG_understandScheme.1.cls M_TG_understandScheme.1 M_TG_understandScheme.1 ∈ fx_tb := fx_is (y := ⟨"FaxPages$Tags", "understandScheme", "()Z"⟩) 16 8 (by decide +kernel)
theorem k_FP_isScheme : Cond.code M_FP_isScheme.1 M_FP_isScheme.2.1 M_FP_isScheme.2.2.1 M_FP_isScheme.2.2.2.1 ∈ fx_tb := fx_in 407 (by decide +kernel) rfl
theorem p_FP_isScheme : M_FP_isScheme.1.cls ≠ "java/lang/invoke/MethodHandle" ∧ M_FP_isScheme.1.cls ≠ "java/lang/invoke/VarHandle" ∧ (parseMethodDescriptor M_FP_isScheme.1.desc).map (fun d => d.parameters.length) = some 1 := ⟨by decide, by decide, (by decide +kernel)⟩
theorem v_FP_isScheme : Cond.static M_FP_isScheme.1 ∈ fx_tb := fx_in 406 (by decide +kernel) rfl
theorem k_FP_isFax : Cond.code M_FP_isFax.1 M_FP_isFax.2.1 M_FP_isFax.2.2.1 M_FP_isFax.2.2.2.1 ∈ fx_tb := fx_in 412 (by decide +kernel) rfl
theorem p_FP_isFax : M_FP_isFax.1.cls ≠ "java/lang/invoke/MethodHandle" ∧ M_FP_isFax.1.cls ≠ "java/lang/invoke/VarHandle" ∧ (parseMethodDescriptor M_FP_isFax.1.desc).map (fun d => d.parameters.length) = some 1 := ⟨by decide, by decide, (by decide +kernel)⟩
theorem v_FP_isFax : Cond.static M_FP_isFax.1 ∈ fx_tb := fx_in 411 (by decide +kernel) rfl
theorem k_TG_understandStrips : Cond.code M_TG_understandStrips.1 M_TG_understandStrips.2.1 M_TG_understandStrips.2.2.1 M_TG_understandStrips.2.2.2.1 ∈ fx_tb := fx_in 419 (by decide +kernel) rfl
theorem p_TG_understandStrips : M_TG_understandStrips.1.cls ≠ "java/lang/invoke/MethodHandle" ∧ M_TG_understandStrips.1.cls ≠ "java/lang/invoke/VarHandle" ∧ (parseMethodDescriptor M_TG_understandStrips.1.desc).map (fun d => d.parameters.length) = some 0 := ⟨by decide, by decide, (by decide +kernel)⟩
theorem v_TG_understandStrips : Cond.instanceMethod M_TG_understandStrips.1 ∈ fx_tb := fx_in 418 (by decide +kernel) rfl
theorem s_TG_understandStrips : Cond.selects M_TG_understandStrips.1.cls M_TG_understandStrips.1 M_TG_understandStrips.1 ∈ fx_tb := fx_is (y := ⟨"FaxPages$Tags", "understandStrips", "()Z"⟩) 17 8 (by decide +kernel)
theorem k_FP_stripsOf : Cond.code M_FP_stripsOf.1 M_FP_stripsOf.2.1 M_FP_stripsOf.2.2.1 M_FP_stripsOf.2.2.2.1 ∈ fx_tb := fx_in 422 (by decide +kernel) rfl
theorem p_FP_stripsOf : M_FP_stripsOf.1.cls ≠ "java/lang/invoke/MethodHandle" ∧ M_FP_stripsOf.1.cls ≠ "java/lang/invoke/VarHandle" ∧ (parseMethodDescriptor M_FP_stripsOf.1.desc).map (fun d => d.parameters.length) = some 2 := ⟨by decide, by decide, (by decide +kernel)⟩
theorem v_FP_stripsOf : Cond.static M_FP_stripsOf.1 ∈ fx_tb := fx_in 421 (by decide +kernel) rfl
theorem k_TG_stripsAreInFile : Cond.code M_TG_stripsAreInFile.1 M_TG_stripsAreInFile.2.1 M_TG_stripsAreInFile.2.2.1 M_TG_stripsAreInFile.2.2.2.1 ∈ fx_tb := fx_in 426 (by decide +kernel) rfl
theorem p_TG_stripsAreInFile : M_TG_stripsAreInFile.1.cls ≠ "java/lang/invoke/MethodHandle" ∧ M_TG_stripsAreInFile.1.cls ≠ "java/lang/invoke/VarHandle" ∧ (parseMethodDescriptor M_TG_stripsAreInFile.1.desc).map (fun d => d.parameters.length) = some 0 := ⟨by decide, by decide, (by decide +kernel)⟩
theorem v_TG_stripsAreInFile : Cond.instanceMethod M_TG_stripsAreInFile.1 ∈ fx_tb := fx_in 425 (by decide +kernel) rfl
theorem s_TG_stripsAreInFile : Cond.selects M_TG_stripsAreInFile.1.cls M_TG_stripsAreInFile.1 M_TG_stripsAreInFile.1 ∈ fx_tb := fx_is (y := ⟨"FaxPages$Tags", "stripsAreInFile", "()Z"⟩) 18 8 (by decide +kernel)
theorem k_FP_unpackStrips : Cond.code M_FP_unpackStrips.1 M_FP_unpackStrips.2.1 M_FP_unpackStrips.2.2.1 M_FP_unpackStrips.2.2.2.1 ∈ fx_tb := fx_in 430 (by decide +kernel) rfl
theorem p_FP_unpackStrips : M_FP_unpackStrips.1.cls ≠ "java/lang/invoke/MethodHandle" ∧ M_FP_unpackStrips.1.cls ≠ "java/lang/invoke/VarHandle" ∧ (parseMethodDescriptor M_FP_unpackStrips.1.desc).map (fun d => d.parameters.length) = some 0 := ⟨by decide, by decide, (by decide +kernel)⟩
theorem v_FP_unpackStrips : Cond.instanceMethod M_FP_unpackStrips.1 ∈ fx_tb := fx_in 429 (by decide +kernel) rfl
theorem s_FP_unpackStrips : Cond.selects M_FP_unpackStrips.1.cls M_FP_unpackStrips.1 M_FP_unpackStrips.1 ∈ fx_tb := fx_is (y := ⟨"FaxPages", "unpackStrips", "()Z"⟩) 19 17 (by decide +kernel)
theorem k_FP_packingOf : Cond.code M_FP_packingOf.1 M_FP_packingOf.2.1 M_FP_packingOf.2.2.1 M_FP_packingOf.2.2.2.1 ∈ fx_tb := fx_in 434 (by decide +kernel) rfl
theorem p_FP_packingOf : M_FP_packingOf.1.cls ≠ "java/lang/invoke/MethodHandle" ∧ M_FP_packingOf.1.cls ≠ "java/lang/invoke/VarHandle" ∧ (parseMethodDescriptor M_FP_packingOf.1.desc).map (fun d => d.parameters.length) = some 1 := ⟨by decide, by decide, (by decide +kernel)⟩
theorem v_FP_packingOf : Cond.instanceMethod M_FP_packingOf.1 ∈ fx_tb := fx_in 433 (by decide +kernel) rfl
theorem s_FP_packingOf : Cond.selects M_FP_packingOf.1.cls M_FP_packingOf.1 M_FP_packingOf.1 ∈ fx_tb := fx_is (y := ⟨"FaxPages", "packingOf", "(I)LFaxPages$Packing;"⟩) 20 17 (by decide +kernel)
theorem k_PI_clear : Cond.code M_PI_clear.1 M_PI_clear.2.1 M_PI_clear.2.2.1 M_PI_clear.2.2.2.1 ∈ fx_tb := fx_in 438 (by decide +kernel) rfl
theorem p_PI_clear : M_PI_clear.1.cls ≠ "java/lang/invoke/MethodHandle" ∧ M_PI_clear.1.cls ≠ "java/lang/invoke/VarHandle" ∧ (parseMethodDescriptor M_PI_clear.1.desc).map (fun d => d.parameters.length) = some 3 := ⟨by decide, by decide, (by decide +kernel)⟩
theorem v_PI_clear : Cond.instanceMethod M_PI_clear.1 ∈ fx_tb := fx_in 437 (by decide +kernel) rfl
theorem s_PI_clear : Cond.selects M_PI_clear.1.cls M_PI_clear.1 M_PI_clear.1 ∈ fx_tb := fx_is (y := ⟨"FaxPages$Picture", "clear", "(ZII)V"⟩) 21 4 (by decide +kernel)
theorem k_BR_open : Cond.code M_BR_open.1 M_BR_open.2.1 M_BR_open.2.2.1 M_BR_open.2.2.2.1 ∈ fx_tb := fx_in 444 (by decide +kernel) rfl
theorem p_BR_open : M_BR_open.1.cls ≠ "java/lang/invoke/MethodHandle" ∧ M_BR_open.1.cls ≠ "java/lang/invoke/VarHandle" ∧ (parseMethodDescriptor M_BR_open.1.desc).map (fun d => d.parameters.length) = some 2 := ⟨by decide, by decide, (by decide +kernel)⟩
theorem v_BR_open : Cond.instanceMethod M_BR_open.1 ∈ fx_tb := fx_in 443 (by decide +kernel) rfl
theorem s_BR_open : Cond.selects M_BR_open.1.cls M_BR_open.1 M_BR_open.1 ∈ fx_tb := fx_is (y := ⟨"FaxPages$BitReader", "open", "(II)V"⟩) 22 3 (by decide +kernel)
theorem k_FX_unpack : Cond.code M_FX_unpack.1 M_FX_unpack.2.1 M_FX_unpack.2.2.1 M_FX_unpack.2.2.2.1 ∈ fx_tb := fx_in 457 (by decide +kernel) rfl
theorem p_FX_unpack : M_FX_unpack.1.cls ≠ "java/lang/invoke/MethodHandle" ∧ M_FX_unpack.1.cls ≠ "java/lang/invoke/VarHandle" ∧ (parseMethodDescriptor M_FX_unpack.1.desc).map (fun d => d.parameters.length) = some 3 := ⟨by decide, by decide, (by decide +kernel)⟩
theorem v_FX_unpack : Cond.instanceMethod M_FX_unpack.1 ∈ fx_tb := fx_in 455 (by decide +kernel) rfl
theorem k_FX_markedLine : Cond.code M_FX_markedLine.1 M_FX_markedLine.2.1 M_FX_markedLine.2.2.1 M_FX_markedLine.2.2.2.1 ∈ fx_tb := fx_in 461 (by decide +kernel) rfl
theorem p_FX_markedLine : M_FX_markedLine.1.cls ≠ "java/lang/invoke/MethodHandle" ∧ M_FX_markedLine.1.cls ≠ "java/lang/invoke/VarHandle" ∧ (parseMethodDescriptor M_FX_markedLine.1.desc).map (fun d => d.parameters.length) = some 0 := ⟨by decide, by decide, (by decide +kernel)⟩
theorem v_FX_markedLine : Cond.instanceMethod M_FX_markedLine.1 ∈ fx_tb := fx_in 460 (by decide +kernel) rfl
theorem s_FX_markedLine : Cond.selects M_FX_markedLine.1.cls M_FX_markedLine.1 M_FX_markedLine.1 ∈ fx_tb := fx_is (y := ⟨"FaxPages$Fax", "markedLine", "()I"⟩) 23 4 (by decide +kernel)
theorem k_FX_isMark : Cond.code M_FX_isMark.1 M_FX_isMark.2.1 M_FX_isMark.2.2.1 M_FX_isMark.2.2.2.1 ∈ fx_tb := fx_in 465 (by decide +kernel) rfl
theorem p_FX_isMark : M_FX_isMark.1.cls ≠ "java/lang/invoke/MethodHandle" ∧ M_FX_isMark.1.cls ≠ "java/lang/invoke/VarHandle" ∧ (parseMethodDescriptor M_FX_isMark.1.desc).map (fun d => d.parameters.length) = some 0 := ⟨by decide, by decide, (by decide +kernel)⟩
theorem v_FX_isMark : Cond.instanceMethod M_FX_isMark.1 ∈ fx_tb := fx_in 464 (by decide +kernel) rfl
theorem s_FX_isMark : Cond.selects M_FX_isMark.1.cls M_FX_isMark.1 M_FX_isMark.1 ∈ fx_tb := fx_is (y := ⟨"FaxPages$Fax", "isMark", "()Z"⟩) 24 4 (by decide +kernel)
theorem k_BR_number : Cond.code M_BR_number.1 M_BR_number.2.1 M_BR_number.2.2.1 M_BR_number.2.2.2.1 ∈ fx_tb := fx_in 469 (by decide +kernel) rfl
theorem p_BR_number : M_BR_number.1.cls ≠ "java/lang/invoke/MethodHandle" ∧ M_BR_number.1.cls ≠ "java/lang/invoke/VarHandle" ∧ (parseMethodDescriptor M_BR_number.1.desc).map (fun d => d.parameters.length) = some 1 := ⟨by decide, by decide, (by decide +kernel)⟩
theorem v_BR_number : Cond.instanceMethod M_BR_number.1 ∈ fx_tb := fx_in 468 (by decide +kernel) rfl
theorem s_BR_number : Cond.selects M_BR_number.1.cls M_BR_number.1 M_BR_number.1 ∈ fx_tb := fx_is (y := ⟨"FaxPages$BitReader", "number", "(I)I"⟩) 25 3 (by decide +kernel)
theorem k_BR_bit : Cond.code M_BR_bit.1 M_BR_bit.2.1 M_BR_bit.2.2.1 M_BR_bit.2.2.2.1 ∈ fx_tb := fx_in 473 (by decide +kernel) rfl
theorem p_BR_bit : M_BR_bit.1.cls ≠ "java/lang/invoke/MethodHandle" ∧ M_BR_bit.1.cls ≠ "java/lang/invoke/VarHandle" ∧ (parseMethodDescriptor M_BR_bit.1.desc).map (fun d => d.parameters.length) = some 0 := ⟨by decide, by decide, (by decide +kernel)⟩
theorem v_BR_bit : Cond.instanceMethod M_BR_bit.1 ∈ fx_tb := fx_in 472 (by decide +kernel) rfl
theorem s_BR_bit : Cond.selects M_BR_bit.1.cls M_BR_bit.1 M_BR_bit.1 ∈ fx_tb := fx_is (y := ⟨"FaxPages$BitReader", "bit", "()I"⟩) 26 3 (by decide +kernel)
theorem k_LI_unpackByItself : Cond.code M_LI_unpackByItself.1 M_LI_unpackByItself.2.1 M_LI_unpackByItself.2.2.1 M_LI_unpackByItself.2.2.2.1 ∈ fx_tb := fx_in 479 (by decide +kernel) rfl
theorem p_LI_unpackByItself : M_LI_unpackByItself.1.cls ≠ "java/lang/invoke/MethodHandle" ∧ M_LI_unpackByItself.1.cls ≠ "java/lang/invoke/VarHandle" ∧ (parseMethodDescriptor M_LI_unpackByItself.1.desc).map (fun d => d.parameters.length) = some 2 := ⟨by decide, by decide, (by decide +kernel)⟩
theorem v_LI_unpackByItself : Cond.instanceMethod M_LI_unpackByItself.1 ∈ fx_tb := fx_in 478 (by decide +kernel) rfl
theorem s_LI_unpackByItself : Cond.selects M_LI_unpackByItself.1.cls M_LI_unpackByItself.1 M_LI_unpackByItself.1 ∈ fx_tb := fx_is (y := ⟨"FaxPages$Lines", "unpackByItself", "(LFaxPages$Picture;I)Z"⟩) 27 5 (by decide +kernel)
theorem k_LI_runsOf : Cond.code M_LI_runsOf.1 M_LI_runsOf.2.1 M_LI_runsOf.2.2.1 M_LI_runsOf.2.2.2.1 ∈ fx_tb := fx_in 483 (by decide +kernel) rfl
theorem p_LI_runsOf : M_LI_runsOf.1.cls ≠ "java/lang/invoke/MethodHandle" ∧ M_LI_runsOf.1.cls ≠ "java/lang/invoke/VarHandle" ∧ (parseMethodDescriptor M_LI_runsOf.1.desc).map (fun d => d.parameters.length) = some 1 := ⟨by decide, by decide, (by decide +kernel)⟩
theorem v_LI_runsOf : Cond.instanceMethod M_LI_runsOf.1 ∈ fx_tb := fx_in 482 (by decide +kernel) rfl
theorem s_LI_runsOf : Cond.selects M_LI_runsOf.1.cls M_LI_runsOf.1 M_LI_runsOf.1 ∈ fx_tb := fx_is (y := ⟨"FaxPages$Lines", "runsOf", "(I)LFaxPages$CodeTree;"⟩) 28 5 (by decide +kernel)
theorem k_CT_next : Cond.code M_CT_next.1 M_CT_next.2.1 M_CT_next.2.2.1 M_CT_next.2.2.2.1 ∈ fx_tb := fx_in 487 (by decide +kernel) rfl
theorem p_CT_next : M_CT_next.1.cls ≠ "java/lang/invoke/MethodHandle" ∧ M_CT_next.1.cls ≠ "java/lang/invoke/VarHandle" ∧ (parseMethodDescriptor M_CT_next.1.desc).map (fun d => d.parameters.length) = some 1 := ⟨by decide, by decide, (by decide +kernel)⟩
theorem v_CT_next : Cond.instanceMethod M_CT_next.1 ∈ fx_tb := fx_in 486 (by decide +kernel) rfl
theorem s_CT_next : Cond.selects M_CT_next.1.cls M_CT_next.1 M_CT_next.1 ∈ fx_tb := fx_is (y := ⟨"FaxPages$CodeTree", "next", "(LFaxPages$BitReader;)I"⟩) 29 1 (by decide +kernel)
theorem k_LI_paintRun : Cond.code M_LI_paintRun.1 M_LI_paintRun.2.1 M_LI_paintRun.2.2.1 M_LI_paintRun.2.2.2.1 ∈ fx_tb := fx_in 492 (by decide +kernel) rfl
theorem p_LI_paintRun : M_LI_paintRun.1.cls ≠ "java/lang/invoke/MethodHandle" ∧ M_LI_paintRun.1.cls ≠ "java/lang/invoke/VarHandle" ∧ (parseMethodDescriptor M_LI_paintRun.1.desc).map (fun d => d.parameters.length) = some 5 := ⟨by decide, by decide, (by decide +kernel)⟩
theorem v_LI_paintRun : Cond.instanceMethod M_LI_paintRun.1 ∈ fx_tb := fx_in 491 (by decide +kernel) rfl
theorem s_LI_paintRun : Cond.selects M_LI_paintRun.1.cls M_LI_paintRun.1 M_LI_paintRun.1 ∈ fx_tb := fx_is (y := ⟨"FaxPages$Lines", "paintRun", "(LFaxPages$Picture;IIII)V"⟩) 30 5 (by decide +kernel)
theorem k_PI_paint : Cond.code M_PI_paint.1 M_PI_paint.2.1 M_PI_paint.2.2.1 M_PI_paint.2.2.2.1 ∈ fx_tb := fx_in 496 (by decide +kernel) rfl
theorem p_PI_paint : M_PI_paint.1.cls ≠ "java/lang/invoke/MethodHandle" ∧ M_PI_paint.1.cls ≠ "java/lang/invoke/VarHandle" ∧ (parseMethodDescriptor M_PI_paint.1.desc).map (fun d => d.parameters.length) = some 3 := ⟨by decide, by decide, (by decide +kernel)⟩
theorem v_PI_paint : Cond.instanceMethod M_PI_paint.1 ∈ fx_tb := fx_in 495 (by decide +kernel) rfl
theorem s_PI_paint : Cond.selects M_PI_paint.1.cls M_PI_paint.1 M_PI_paint.1 ∈ fx_tb := fx_is (y := ⟨"FaxPages$Picture", "paint", "(III)V"⟩) 31 4 (by decide +kernel)
theorem k_LI_unpackByAnother : Cond.code M_LI_unpackByAnother.1 M_LI_unpackByAnother.2.1 M_LI_unpackByAnother.2.2.1 M_LI_unpackByAnother.2.2.2.1 ∈ fx_tb := fx_in 500 (by decide +kernel) rfl
theorem p_LI_unpackByAnother : M_LI_unpackByAnother.1.cls ≠ "java/lang/invoke/MethodHandle" ∧ M_LI_unpackByAnother.1.cls ≠ "java/lang/invoke/VarHandle" ∧ (parseMethodDescriptor M_LI_unpackByAnother.1.desc).map (fun d => d.parameters.length) = some 3 := ⟨by decide, by decide, (by decide +kernel)⟩
theorem v_LI_unpackByAnother : Cond.instanceMethod M_LI_unpackByAnother.1 ∈ fx_tb := fx_in 499 (by decide +kernel) rfl
theorem s_LI_unpackByAnother : Cond.selects M_LI_unpackByAnother.1.cls M_LI_unpackByAnother.1 M_LI_unpackByAnother.1 ∈ fx_tb := fx_is (y := ⟨"FaxPages$Lines", "unpackByAnother", "(LFaxPages$Picture;II)Z"⟩) 32 5 (by decide +kernel)
theorem k_LI_unpackTwoRuns : Cond.code M_LI_unpackTwoRuns.1 M_LI_unpackTwoRuns.2.1 M_LI_unpackTwoRuns.2.2.1 M_LI_unpackTwoRuns.2.2.2.1 ∈ fx_tb := fx_in 505 (by decide +kernel) rfl
theorem p_LI_unpackTwoRuns : M_LI_unpackTwoRuns.1.cls ≠ "java/lang/invoke/MethodHandle" ∧ M_LI_unpackTwoRuns.1.cls ≠ "java/lang/invoke/VarHandle" ∧ (parseMethodDescriptor M_LI_unpackTwoRuns.1.desc).map (fun d => d.parameters.length) = some 4 := ⟨by decide, by decide, (by decide +kernel)⟩
theorem v_LI_unpackTwoRuns : Cond.instanceMethod M_LI_unpackTwoRuns.1 ∈ fx_tb := fx_in 504 (by decide +kernel) rfl
theorem s_LI_unpackTwoRuns : Cond.selects M_LI_unpackTwoRuns.1.cls M_LI_unpackTwoRuns.1 M_LI_unpackTwoRuns.1 ∈ fx_tb := fx_is (y := ⟨"FaxPages$Lines", "unpackTwoRuns", "(LFaxPages$Picture;III)I"⟩) 33 5 (by decide +kernel)
theorem k_LI_endOfMode : Cond.code M_LI_endOfMode.1 M_LI_endOfMode.2.1 M_LI_endOfMode.2.2.1 M_LI_endOfMode.2.2.2.1 ∈ fx_tb := fx_in 509 (by decide +kernel) rfl
theorem p_LI_endOfMode : M_LI_endOfMode.1.cls ≠ "java/lang/invoke/MethodHandle" ∧ M_LI_endOfMode.1.cls ≠ "java/lang/invoke/VarHandle" ∧ (parseMethodDescriptor M_LI_endOfMode.1.desc).map (fun d => d.parameters.length) = some 5 := ⟨by decide, by decide, (by decide +kernel)⟩
theorem v_LI_endOfMode : Cond.instanceMethod M_LI_endOfMode.1 ∈ fx_tb := fx_in 508 (by decide +kernel) rfl
theorem s_LI_endOfMode : Cond.selects M_LI_endOfMode.1.cls M_LI_endOfMode.1 M_LI_endOfMode.1 ∈ fx_tb := fx_is (y := ⟨"FaxPages$Lines", "endOfMode", "(LFaxPages$Picture;IIII)I"⟩) 34 5 (by decide +kernel)
theorem k_PI_firstChange : Cond.code M_PI_firstChange.1 M_PI_firstChange.2.1 M_PI_firstChange.2.2.1 M_PI_firstChange.2.2.2.1 ∈ fx_tb := fx_in 513 (by decide +kernel) rfl
theorem p_PI_firstChange : M_PI_firstChange.1.cls ≠ "java/lang/invoke/MethodHandle" ∧ M_PI_firstChange.1.cls ≠ "java/lang/invoke/VarHandle" ∧ (parseMethodDescriptor M_PI_firstChange.1.desc).map (fun d => d.parameters.length) = some 3 := ⟨by decide, by decide, (by decide +kernel)⟩
theorem v_PI_firstChange : Cond.instanceMethod M_PI_firstChange.1 ∈ fx_tb := fx_in 512 (by decide +kernel) rfl
theorem s_PI_firstChange : Cond.selects M_PI_firstChange.1.cls M_PI_firstChange.1 M_PI_firstChange.1 ∈ fx_tb := fx_is (y := ⟨"FaxPages$Picture", "firstChange", "(III)I"⟩) 35 4 (by decide +kernel)
theorem k_PI_firstUnlike : Cond.code M_PI_firstUnlike.1 M_PI_firstUnlike.2.1 M_PI_firstUnlike.2.2.1 M_PI_firstUnlike.2.2.2.1 ∈ fx_tb := fx_in 518 (by decide +kernel) rfl
theorem p_PI_firstUnlike : M_PI_firstUnlike.1.cls ≠ "java/lang/invoke/MethodHandle" ∧ M_PI_firstUnlike.1.cls ≠ "java/lang/invoke/VarHandle" ∧ (parseMethodDescriptor M_PI_firstUnlike.1.desc).map (fun d => d.parameters.length) = some 3 := ⟨by decide, by decide, (by decide +kernel)⟩
theorem v_PI_firstUnlike : Cond.instanceMethod M_PI_firstUnlike.1 ∈ fx_tb := fx_in 517 (by decide +kernel) rfl
theorem s_PI_firstUnlike : Cond.selects M_PI_firstUnlike.1.cls M_PI_firstUnlike.1 M_PI_firstUnlike.1 ∈ fx_tb := fx_is (y := ⟨"FaxPages$Picture", "firstUnlike", "(III)I"⟩) 36 4 (by decide +kernel)
theorem k_BR_onlyFillLeft : Cond.code M_BR_onlyFillLeft.1 M_BR_onlyFillLeft.2.1 M_BR_onlyFillLeft.2.2.1 M_BR_onlyFillLeft.2.2.2.1 ∈ fx_tb := fx_in 522 (by decide +kernel) rfl
theorem p_BR_onlyFillLeft : M_BR_onlyFillLeft.1.cls ≠ "java/lang/invoke/MethodHandle" ∧ M_BR_onlyFillLeft.1.cls ≠ "java/lang/invoke/VarHandle" ∧ (parseMethodDescriptor M_BR_onlyFillLeft.1.desc).map (fun d => d.parameters.length) = some 0 := ⟨by decide, by decide, (by decide +kernel)⟩
theorem v_BR_onlyFillLeft : Cond.instanceMethod M_BR_onlyFillLeft.1 ∈ fx_tb := fx_in 521 (by decide +kernel) rfl
theorem s_BR_onlyFillLeft : Cond.selects M_BR_onlyFillLeft.1.cls M_BR_onlyFillLeft.1 M_BR_onlyFillLeft.1 ∈ fx_tb := fx_is (y := ⟨"FaxPages$BitReader", "onlyFillLeft", "()Z"⟩) 37 3 (by decide +kernel)
theorem k_PL_unpack : Cond.code M_PL_unpack.1 M_PL_unpack.2.1 M_PL_unpack.2.2.1 M_PL_unpack.2.2.2.1 ∈ fx_tb := fx_in 529 (by decide +kernel) rfl
theorem p_PL_unpack : M_PL_unpack.1.cls ≠ "java/lang/invoke/MethodHandle" ∧ M_PL_unpack.1.cls ≠ "java/lang/invoke/VarHandle" ∧ (parseMethodDescriptor M_PL_unpack.1.desc).map (fun d => d.parameters.length) = some 3 := ⟨by decide, by decide, (by decide +kernel)⟩
theorem v_PL_unpack : Cond.instanceMethod M_PL_unpack.1 ∈ fx_tb := fx_in 527 (by decide +kernel) rfl
theorem k_PI_rowBytes : Cond.code M_PI_rowBytes.1 M_PI_rowBytes.2.1 M_PI_rowBytes.2.2.1 M_PI_rowBytes.2.2.2.1 ∈ fx_tb := fx_in 533 (by decide +kernel) rfl
theorem p_PI_rowBytes : M_PI_rowBytes.1.cls ≠ "java/lang/invoke/MethodHandle" ∧ M_PI_rowBytes.1.cls ≠ "java/lang/invoke/VarHandle" ∧ (parseMethodDescriptor M_PI_rowBytes.1.desc).map (fun d => d.parameters.length) = some 0 := ⟨by decide, by decide, (by decide +kernel)⟩
theorem v_PI_rowBytes : Cond.instanceMethod M_PI_rowBytes.1 ∈ fx_tb := fx_in 532 (by decide +kernel) rfl
theorem s_PI_rowBytes : Cond.selects M_PI_rowBytes.1.cls M_PI_rowBytes.1 M_PI_rowBytes.1 ∈ fx_tb := fx_is (y := ⟨"FaxPages$Picture", "rowBytes", "()I"⟩) 38 4 (by decide +kernel)
theorem k_PI_paintRowByte : Cond.code M_PI_paintRowByte.1 M_PI_paintRowByte.2.1 M_PI_paintRowByte.2.2.1 M_PI_paintRowByte.2.2.2.1 ∈ fx_tb := fx_in 538 (by decide +kernel) rfl
theorem p_PI_paintRowByte : M_PI_paintRowByte.1.cls ≠ "java/lang/invoke/MethodHandle" ∧ M_PI_paintRowByte.1.cls ≠ "java/lang/invoke/VarHandle" ∧ (parseMethodDescriptor M_PI_paintRowByte.1.desc).map (fun d => d.parameters.length) = some 3 := ⟨by decide, by decide, (by decide +kernel)⟩
theorem v_PI_paintRowByte : Cond.instanceMethod M_PI_paintRowByte.1 ∈ fx_tb := fx_in 537 (by decide +kernel) rfl
theorem s_PI_paintRowByte : Cond.selects M_PI_paintRowByte.1.cls M_PI_paintRowByte.1 M_PI_paintRowByte.1 ∈ fx_tb := fx_is (y := ⟨"FaxPages$Picture", "paintRowByte", "(III)Z"⟩) 39 4 (by decide +kernel)
theorem k_BR_atEnd : Cond.code M_BR_atEnd.1 M_BR_atEnd.2.1 M_BR_atEnd.2.2.1 M_BR_atEnd.2.2.2.1 ∈ fx_tb := fx_in 543 (by decide +kernel) rfl
theorem p_BR_atEnd : M_BR_atEnd.1.cls ≠ "java/lang/invoke/MethodHandle" ∧ M_BR_atEnd.1.cls ≠ "java/lang/invoke/VarHandle" ∧ (parseMethodDescriptor M_BR_atEnd.1.desc).map (fun d => d.parameters.length) = some 0 := ⟨by decide, by decide, (by decide +kernel)⟩
theorem v_BR_atEnd : Cond.instanceMethod M_BR_atEnd.1 ∈ fx_tb := fx_in 542 (by decide +kernel) rfl
theorem s_BR_atEnd : Cond.selects M_BR_atEnd.1.cls M_BR_atEnd.1 M_BR_atEnd.1 ∈ fx_tb := fx_is (y := ⟨"FaxPages$BitReader", "atEnd", "()Z"⟩) 40 3 (by decide +kernel)
theorem k_RU_unpack : Cond.code M_RU_unpack.1 M_RU_unpack.2.1 M_RU_unpack.2.2.1 M_RU_unpack.2.2.2.1 ∈ fx_tb := fx_in 549 (by decide +kernel) rfl
theorem p_RU_unpack : M_RU_unpack.1.cls ≠ "java/lang/invoke/MethodHandle" ∧ M_RU_unpack.1.cls ≠ "java/lang/invoke/VarHandle" ∧ (parseMethodDescriptor M_RU_unpack.1.desc).map (fun d => d.parameters.length) = some 3 := ⟨by decide, by decide, (by decide +kernel)⟩
theorem v_RU_unpack : Cond.instanceMethod M_RU_unpack.1 ∈ fx_tb := fx_in 547 (by decide +kernel) rfl
theorem k_RU_unpackRow : Cond.code M_RU_unpackRow.1 M_RU_unpackRow.2.1 M_RU_unpackRow.2.2.1 M_RU_unpackRow.2.2.2.1 ∈ fx_tb := fx_in 553 (by decide +kernel) rfl
theorem p_RU_unpackRow : M_RU_unpackRow.1.cls ≠ "java/lang/invoke/MethodHandle" ∧ M_RU_unpackRow.1.cls ≠ "java/lang/invoke/VarHandle" ∧ (parseMethodDescriptor M_RU_unpackRow.1.desc).map (fun d => d.parameters.length) = some 2 := ⟨by decide, by decide, (by decide +kernel)⟩
theorem v_RU_unpackRow : Cond.instanceMethod M_RU_unpackRow.1 ∈ fx_tb := fx_in 552 (by decide +kernel) rfl
theorem s_RU_unpackRow : Cond.selects M_RU_unpackRow.1.cls M_RU_unpackRow.1 M_RU_unpackRow.1 ∈ fx_tb := fx_is (y := ⟨"FaxPages$Runs", "unpackRow", "(LFaxPages$Picture;I)Z"⟩) 41 3 (by decide +kernel)
theorem k_RU_unpackRun : Cond.code M_RU_unpackRun.1 M_RU_unpackRun.2.1 M_RU_unpackRun.2.2.1 M_RU_unpackRun.2.2.2.1 ∈ fx_tb := fx_in 559 (by decide +kernel) rfl
theorem p_RU_unpackRun : M_RU_unpackRun.1.cls ≠ "java/lang/invoke/MethodHandle" ∧ M_RU_unpackRun.1.cls ≠ "java/lang/invoke/VarHandle" ∧ (parseMethodDescriptor M_RU_unpackRun.1.desc).map (fun d => d.parameters.length) = some 5 := ⟨by decide, by decide, (by decide +kernel)⟩
theorem v_RU_unpackRun : Cond.instanceMethod M_RU_unpackRun.1 ∈ fx_tb := fx_in 558 (by decide +kernel) rfl
theorem s_RU_unpackRun : Cond.selects M_RU_unpackRun.1.cls M_RU_unpackRun.1 M_RU_unpackRun.1 ∈ fx_tb := fx_is (y := ⟨"FaxPages$Runs", "unpackRun", "(LFaxPages$Picture;IIIZ)Z"⟩) 42 3 (by decide +kernel)
theorem k_TA_unpack : Cond.code M_TA_unpack.1 M_TA_unpack.2.1 M_TA_unpack.2.2.1 M_TA_unpack.2.2.2.1 ∈ fx_tb := fx_in 567 (by decide +kernel) rfl
theorem p_TA_unpack : M_TA_unpack.1.cls ≠ "java/lang/invoke/MethodHandle" ∧ M_TA_unpack.1.cls ≠ "java/lang/invoke/VarHandle" ∧ (parseMethodDescriptor M_TA_unpack.1.desc).map (fun d => d.parameters.length) = some 3 := ⟨by decide, by decide, (by decide +kernel)⟩
theorem v_TA_unpack : Cond.instanceMethod M_TA_unpack.1 ∈ fx_tb := fx_in 565 (by decide +kernel) rfl
theorem k_TA_bitsOfCode : Cond.code M_TA_bitsOfCode.1 M_TA_bitsOfCode.2.1 M_TA_bitsOfCode.2.2.1 M_TA_bitsOfCode.2.2.2.1 ∈ fx_tb := fx_in 572 (by decide +kernel) rfl
theorem p_TA_bitsOfCode : M_TA_bitsOfCode.1.cls ≠ "java/lang/invoke/MethodHandle" ∧ M_TA_bitsOfCode.1.cls ≠ "java/lang/invoke/VarHandle" ∧ (parseMethodDescriptor M_TA_bitsOfCode.1.desc).map (fun d => d.parameters.length) = some 1 := ⟨by decide, by decide, (by decide +kernel)⟩
theorem v_TA_bitsOfCode : Cond.static M_TA_bitsOfCode.1 ∈ fx_tb := fx_in 571 (by decide +kernel) rfl
theorem k_TA_unpackCodes : Cond.code M_TA_unpackCodes.1 M_TA_unpackCodes.2.1 M_TA_unpackCodes.2.2.1 M_TA_unpackCodes.2.2.2.1 ∈ fx_tb := fx_in 577 (by decide +kernel) rfl
theorem p_TA_unpackCodes : M_TA_unpackCodes.1.cls ≠ "java/lang/invoke/MethodHandle" ∧ M_TA_unpackCodes.1.cls ≠ "java/lang/invoke/VarHandle" ∧ (parseMethodDescriptor M_TA_unpackCodes.1.desc).map (fun d => d.parameters.length) = some 1 := ⟨by decide, by decide, (by decide +kernel)⟩
theorem v_TA_unpackCodes : Cond.instanceMethod M_TA_unpackCodes.1 ∈ fx_tb := fx_in 576 (by decide +kernel) rfl
theorem s_TA_unpackCodes : Cond.selects M_TA_unpackCodes.1.cls M_TA_unpackCodes.1 M_TA_unpackCodes.1 ∈ fx_tb := fx_is (y := ⟨"FaxPages$Table", "unpackCodes", "(I)Z"⟩) 43 10 (by decide +kernel)
theorem k_TA_copyEntry : Cond.code M_TA_copyEntry.1 M_TA_copyEntry.2.1 M_TA_copyEntry.2.2.1 M_TA_copyEntry.2.2.2.1 ∈ fx_tb := fx_in 581 (by decide +kernel) rfl
theorem p_TA_copyEntry : M_TA_copyEntry.1.cls ≠ "java/lang/invoke/MethodHandle" ∧ M_TA_copyEntry.1.cls ≠ "java/lang/invoke/VarHandle" ∧ (parseMethodDescriptor M_TA_copyEntry.1.desc).map (fun d => d.parameters.length) = some 3 := ⟨by decide, by decide, (by decide +kernel)⟩
theorem v_TA_copyEntry : Cond.instanceMethod M_TA_copyEntry.1 ∈ fx_tb := fx_in 580 (by decide +kernel) rfl
theorem s_TA_copyEntry : Cond.selects M_TA_copyEntry.1.cls M_TA_copyEntry.1 M_TA_copyEntry.1 ∈ fx_tb := fx_is (y := ⟨"FaxPages$Table", "copyEntry", "(III)V"⟩) 44 10 (by decide +kernel)
theorem k_TA_paintRows : Cond.code M_TA_paintRows.1 M_TA_paintRows.2.1 M_TA_paintRows.2.2.1 M_TA_paintRows.2.2.2.1 ∈ fx_tb := fx_in 586 (by decide +kernel) rfl
theorem p_TA_paintRows : M_TA_paintRows.1.cls ≠ "java/lang/invoke/MethodHandle" ∧ M_TA_paintRows.1.cls ≠ "java/lang/invoke/VarHandle" ∧ (parseMethodDescriptor M_TA_paintRows.1.desc).map (fun d => d.parameters.length) = some 3 := ⟨by decide, by decide, (by decide +kernel)⟩
theorem v_TA_paintRows : Cond.instanceMethod M_TA_paintRows.1 ∈ fx_tb := fx_in 585 (by decide +kernel) rfl
theorem s_TA_paintRows : Cond.selects M_TA_paintRows.1.cls M_TA_paintRows.1 M_TA_paintRows.1 ∈ fx_tb := fx_is (y := ⟨"FaxPages$Table", "paintRows", "(LFaxPages$Picture;II)Z"⟩) 45 10 (by decide +kernel)
theorem k_FP_know : Cond.code M_FP_know.1 M_FP_know.2.1 M_FP_know.2.2.1 M_FP_know.2.2.2.1 ∈ fx_tb := fx_in 591 (by decide +kernel) rfl
theorem p_FP_know : M_FP_know.1.cls ≠ "java/lang/invoke/MethodHandle" ∧ M_FP_know.1.cls ≠ "java/lang/invoke/VarHandle" ∧ (parseMethodDescriptor M_FP_know.1.desc).map (fun d => d.parameters.length) = some 4 := ⟨by decide, by decide, (by decide +kernel)⟩
theorem v_FP_know : Cond.instanceMethod M_FP_know.1 ∈ fx_tb := fx_in 590 (by decide +kernel) rfl
theorem s_FP_know : Cond.selects M_FP_know.1.cls M_FP_know.1 M_FP_know.1 ∈ fx_tb := fx_is (y := ⟨"FaxPages", "know", "(IZII)V"⟩) 46 17 (by decide +kernel)
theorem k_FP_size : Cond.code M_FP_size.1 M_FP_size.2.1 M_FP_size.2.2.1 M_FP_size.2.2.2.1 ∈ fx_tb := fx_in 595 (by decide +kernel) rfl
theorem p_FP_size : M_FP_size.1.cls ≠ "java/lang/invoke/MethodHandle" ∧ M_FP_size.1.cls ≠ "java/lang/invoke/VarHandle" ∧ (parseMethodDescriptor M_FP_size.1.desc).map (fun d => d.parameters.length) = some 0 := ⟨by decide, by decide, (by decide +kernel)⟩
theorem v_FP_size : Cond.instanceMethod M_FP_size.1 ∈ fx_tb := fx_in 593 (by decide +kernel) rfl
theorem s_FP_size : Cond.selects M_FP_size.1.cls M_FP_size.1 M_FP_size.1 ∈ fx_tb := fx_in 594 (by decide +kernel) rfl
theorem k_FP_at : Cond.code M_FP_at.1 M_FP_at.2.1 M_FP_at.2.2.1 M_FP_at.2.2.2.1 ∈ fx_tb := fx_in 599 (by decide +kernel) rfl
theorem p_FP_at : M_FP_at.1.cls ≠ "java/lang/invoke/MethodHandle" ∧ M_FP_at.1.cls ≠ "java/lang/invoke/VarHandle" ∧ (parseMethodDescriptor M_FP_at.1.desc).map (fun d => d.parameters.length) = some 1 := ⟨by decide, by decide, (by decide +kernel)⟩
theorem v_FP_at : Cond.instanceMethod M_FP_at.1 ∈ fx_tb := fx_in 597 (by decide +kernel) rfl
theorem s_FP_at : Cond.selects M_FP_at.1.cls M_FP_at.1 M_FP_at.1 ∈ fx_tb := fx_in 598 (by decide +kernel) rfl
theorem k_BY_has : Cond.code M_BY_has.1 M_BY_has.2.1 M_BY_has.2.2.1 M_BY_has.2.2.2.1 ∈ fx_tb := fx_in 603 (by decide +kernel) rfl
theorem p_BY_has : M_BY_has.1.cls ≠ "java/lang/invoke/MethodHandle" ∧ M_BY_has.1.cls ≠ "java/lang/invoke/VarHandle" ∧ (parseMethodDescriptor M_BY_has.1.desc).map (fun d => d.parameters.length) = some 1 := ⟨by decide, by decide, (by decide +kernel)⟩
theorem v_BY_has : Cond.instanceMethod M_BY_has.1 ∈ fx_tb := fx_in 602 (by decide +kernel) rfl
theorem s_BY_has : Cond.selects M_BY_has.1.cls M_BY_has.1 M_BY_has.1 ∈ fx_tb := fx_is (y := ⟨"FaxPages$Bytes", "has", "(I)Z"⟩) 47 4 (by decide +kernel)
theorem k_FP_add : Cond.code M_FP_add.1 M_FP_add.2.1 M_FP_add.2.2.1 M_FP_add.2.2.2.1 ∈ fx_tb := fx_in 608 (by decide +kernel) rfl
theorem p_FP_add : M_FP_add.1.cls ≠ "java/lang/invoke/MethodHandle" ∧ M_FP_add.1.cls ≠ "java/lang/invoke/VarHandle" ∧ (parseMethodDescriptor M_FP_add.1.desc).map (fun d => d.parameters.length) = some 1 := ⟨by decide, by decide, (by decide +kernel)⟩
theorem v_FP_add : Cond.instanceMethod M_FP_add.1 ∈ fx_tb := fx_in 606 (by decide +kernel) rfl
theorem s_FP_add : Cond.selects M_FP_add.1.cls M_FP_add.1 M_FP_add.1 ∈ fx_tb := fx_in 607 (by decide +kernel) rfl
theorem k_FP_isByte : Cond.code M_FP_isByte.1 M_FP_isByte.2.1 M_FP_isByte.2.2.1 M_FP_isByte.2.2.2.1 ∈ fx_tb := fx_in 611 (by decide +kernel) rfl
theorem p_FP_isByte : M_FP_isByte.1.cls ≠ "java/lang/invoke/MethodHandle" ∧ M_FP_isByte.1.cls ≠ "java/lang/invoke/VarHandle" ∧ (parseMethodDescriptor M_FP_isByte.1.desc).map (fun d => d.parameters.length) = some 1 := ⟨by decide, by decide, (by decide +kernel)⟩
theorem v_FP_isByte : Cond.static M_FP_isByte.1 ∈ fx_tb := fx_in 610 (by decide +kernel) rfl
theorem k_BY_append : Cond.code M_BY_append.1 M_BY_append.2.1 M_BY_append.2.2.1 M_BY_append.2.2.2.1 ∈ fx_tb := fx_in 615 (by decide +kernel) rfl
theorem p_BY_append : M_BY_append.1.cls ≠ "java/lang/invoke/MethodHandle" ∧ M_BY_append.1.cls ≠ "java/lang/invoke/VarHandle" ∧ (parseMethodDescriptor M_BY_append.1.desc).map (fun d => d.parameters.length) = some 1 := ⟨by decide, by decide, (by decide +kernel)⟩
theorem v_BY_append : Cond.instanceMethod M_BY_append.1 ∈ fx_tb := fx_in 614 (by decide +kernel) rfl
theorem s_BY_append : Cond.selects M_BY_append.1.cls M_BY_append.1 M_BY_append.1 ∈ fx_tb := fx_is (y := ⟨"FaxPages$Bytes", "append", "(I)V"⟩) 48 4 (by decide +kernel)
theorem i_LW : Cond.initialized "FaxPagesLaw" ∈ fx_tb := fx_in 0 (by decide +kernel) rfl
theorem p_LW_blank : M_LW_blank.1.cls ≠ "java/lang/invoke/MethodHandle" ∧ M_LW_blank.1.cls ≠ "java/lang/invoke/VarHandle" ∧ (parseMethodDescriptor M_LW_blank.1.desc).map (fun d => d.parameters.length) = some 4 := ⟨by decide, by decide, (by decide +kernel)⟩
theorem v_LW_blank : Cond.static M_LW_blank.1 ∈ fx_tb := fx_in 617 (by decide +kernel) rfl
theorem k_FP_blank : Cond.code M_FP_blank.1 M_FP_blank.2.1 M_FP_blank.2.2.1 M_FP_blank.2.2.2.1 ∈ fx_tb := fx_in 623 (by decide +kernel) rfl
theorem p_FP_blank : M_FP_blank.1.cls ≠ "java/lang/invoke/MethodHandle" ∧ M_FP_blank.1.cls ≠ "java/lang/invoke/VarHandle" ∧ (parseMethodDescriptor M_FP_blank.1.desc).map (fun d => d.parameters.length) = some 3 := ⟨by decide, by decide, (by decide +kernel)⟩
theorem v_FP_blank : Cond.instanceMethod M_FP_blank.1 ∈ fx_tb := fx_in 621 (by decide +kernel) rfl
theorem s_FP_blank : Cond.selects M_FP_blank.1.cls M_FP_blank.1 M_FP_blank.1 ∈ fx_tb := fx_in 622 (by decide +kernel) rfl
theorem p_LW_set : M_LW_set.1.cls ≠ "java/lang/invoke/MethodHandle" ∧ M_LW_set.1.cls ≠ "java/lang/invoke/VarHandle" ∧ (parseMethodDescriptor M_LW_set.1.desc).map (fun d => d.parameters.length) = some 4 := ⟨by decide, by decide, (by decide +kernel)⟩
theorem v_LW_set : Cond.static M_LW_set.1 ∈ fx_tb := fx_in 689 (by decide +kernel) rfl
theorem k_FP_set : Cond.code M_FP_set.1 M_FP_set.2.1 M_FP_set.2.2.1 M_FP_set.2.2.2.1 ∈ fx_tb := fx_in 695 (by decide +kernel) rfl
theorem p_FP_set : M_FP_set.1.cls ≠ "java/lang/invoke/MethodHandle" ∧ M_FP_set.1.cls ≠ "java/lang/invoke/VarHandle" ∧ (parseMethodDescriptor M_FP_set.1.desc).map (fun d => d.parameters.length) = some 3 := ⟨by decide, by decide, (by decide +kernel)⟩
theorem v_FP_set : Cond.instanceMethod M_FP_set.1 ∈ fx_tb := fx_in 693 (by decide +kernel) rfl
theorem s_FP_set : Cond.selects M_FP_set.1.cls M_FP_set.1 M_FP_set.1 ∈ fx_tb := fx_in 694 (by decide +kernel) rfl
theorem p_LW_write : M_LW_write.1.cls ≠ "java/lang/invoke/MethodHandle" ∧ M_LW_write.1.cls ≠ "java/lang/invoke/VarHandle" ∧ (parseMethodDescriptor M_LW_write.1.desc).map (fun d => d.parameters.length) = some 5 := ⟨by decide, by decide, (by decide +kernel)⟩
theorem v_LW_write : Cond.static M_LW_write.1 ∈ fx_tb := fx_in 713 (by decide +kernel) rfl
theorem k_FP_write : Cond.code M_FP_write.1 M_FP_write.2.1 M_FP_write.2.2.1 M_FP_write.2.2.2.1 ∈ fx_tb := fx_in 719 (by decide +kernel) rfl
theorem p_FP_write : M_FP_write.1.cls ≠ "java/lang/invoke/MethodHandle" ∧ M_FP_write.1.cls ≠ "java/lang/invoke/VarHandle" ∧ (parseMethodDescriptor M_FP_write.1.desc).map (fun d => d.parameters.length) = some 3 := ⟨by decide, by decide, (by decide +kernel)⟩
theorem v_FP_write : Cond.instanceMethod M_FP_write.1 ∈ fx_tb := fx_in 717 (by decide +kernel) rfl
theorem s_FP_write : Cond.selects M_FP_write.1.cls M_FP_write.1 M_FP_write.1 ∈ fx_tb := fx_in 718 (by decide +kernel) rfl
theorem k_BY_start : Cond.code M_BY_start.1 M_BY_start.2.1 M_BY_start.2.2.1 M_BY_start.2.2.2.1 ∈ fx_tb := fx_in 740 (by decide +kernel) rfl
theorem p_BY_start : M_BY_start.1.cls ≠ "java/lang/invoke/MethodHandle" ∧ M_BY_start.1.cls ≠ "java/lang/invoke/VarHandle" ∧ (parseMethodDescriptor M_BY_start.1.desc).map (fun d => d.parameters.length) = some 1 := ⟨by decide, by decide, (by decide +kernel)⟩
theorem v_BY_start : Cond.instanceMethod M_BY_start.1 ∈ fx_tb := fx_in 739 (by decide +kernel) rfl
theorem s_BY_start : Cond.selects M_BY_start.1.cls M_BY_start.1 M_BY_start.1 ∈ fx_tb := fx_is (y := ⟨"FaxPages$Bytes", "start", "(Z)V"⟩) 50 4 (by decide +kernel)
theorem k_BY_appendNumber : Cond.code M_BY_appendNumber.1 M_BY_appendNumber.2.1 M_BY_appendNumber.2.2.1 M_BY_appendNumber.2.2.2.1 ∈ fx_tb := fx_in 745 (by decide +kernel) rfl
theorem p_BY_appendNumber : M_BY_appendNumber.1.cls ≠ "java/lang/invoke/MethodHandle" ∧ M_BY_appendNumber.1.cls ≠ "java/lang/invoke/VarHandle" ∧ (parseMethodDescriptor M_BY_appendNumber.1.desc).map (fun d => d.parameters.length) = some 2 := ⟨by decide, by decide, (by decide +kernel)⟩
theorem v_BY_appendNumber : Cond.instanceMethod M_BY_appendNumber.1 ∈ fx_tb := fx_in 744 (by decide +kernel) rfl
theorem s_BY_appendNumber : Cond.selects M_BY_appendNumber.1.cls M_BY_appendNumber.1 M_BY_appendNumber.1 ∈ fx_tb := fx_is (y := ⟨"FaxPages$Bytes", "appendNumber", "(II)V"⟩) 51 4 (by decide +kernel)
theorem k_FP_packStrips : Cond.code M_FP_packStrips.1 M_FP_packStrips.2.1 M_FP_packStrips.2.2.1 M_FP_packStrips.2.2.2.1 ∈ fx_tb := fx_in 749 (by decide +kernel) rfl
theorem p_FP_packStrips : M_FP_packStrips.1.cls ≠ "java/lang/invoke/MethodHandle" ∧ M_FP_packStrips.1.cls ≠ "java/lang/invoke/VarHandle" ∧ (parseMethodDescriptor M_FP_packStrips.1.desc).map (fun d => d.parameters.length) = some 3 := ⟨by decide, by decide, (by decide +kernel)⟩
theorem v_FP_packStrips : Cond.instanceMethod M_FP_packStrips.1 ∈ fx_tb := fx_in 748 (by decide +kernel) rfl
theorem s_FP_packStrips : Cond.selects M_FP_packStrips.1.cls M_FP_packStrips.1 M_FP_packStrips.1 ∈ fx_tb := fx_is (y := ⟨"FaxPages", "packStrips", "(LFaxPages$Packing;II)V"⟩) 52 17 (by decide +kernel)
theorem k_FX_pack : Cond.code M_FX_pack.1 M_FX_pack.2.1 M_FX_pack.2.2.1 M_FX_pack.2.2.2.1 ∈ fx_tb := fx_in 758 (by decide +kernel) rfl
theorem p_FX_pack : M_FX_pack.1.cls ≠ "java/lang/invoke/MethodHandle" ∧ M_FX_pack.1.cls ≠ "java/lang/invoke/VarHandle" ∧ (parseMethodDescriptor M_FX_pack.1.desc).map (fun d => d.parameters.length) = some 3 := ⟨by decide, by decide, (by decide +kernel)⟩
theorem v_FX_pack : Cond.instanceMethod M_FX_pack.1 ∈ fx_tb := fx_in 756 (by decide +kernel) rfl
theorem k_BY_appendBits : Cond.code M_BY_appendBits.1 M_BY_appendBits.2.1 M_BY_appendBits.2.2.1 M_BY_appendBits.2.2.2.1 ∈ fx_tb := fx_in 762 (by decide +kernel) rfl
theorem p_BY_appendBits : M_BY_appendBits.1.cls ≠ "java/lang/invoke/MethodHandle" ∧ M_BY_appendBits.1.cls ≠ "java/lang/invoke/VarHandle" ∧ (parseMethodDescriptor M_BY_appendBits.1.desc).map (fun d => d.parameters.length) = some 2 := ⟨by decide, by decide, (by decide +kernel)⟩
theorem v_BY_appendBits : Cond.instanceMethod M_BY_appendBits.1 ∈ fx_tb := fx_in 761 (by decide +kernel) rfl
theorem s_BY_appendBits : Cond.selects M_BY_appendBits.1.cls M_BY_appendBits.1 M_BY_appendBits.1 ∈ fx_tb := fx_is (y := ⟨"FaxPages$Bytes", "appendBits", "(II)V"⟩) 53 4 (by decide +kernel)
theorem k_BY_change : Cond.code M_BY_change.1 M_BY_change.2.1 M_BY_change.2.2.1 M_BY_change.2.2.2.1 ∈ fx_tb := fx_in 766 (by decide +kernel) rfl
theorem p_BY_change : M_BY_change.1.cls ≠ "java/lang/invoke/MethodHandle" ∧ M_BY_change.1.cls ≠ "java/lang/invoke/VarHandle" ∧ (parseMethodDescriptor M_BY_change.1.desc).map (fun d => d.parameters.length) = some 2 := ⟨by decide, by decide, (by decide +kernel)⟩
theorem v_BY_change : Cond.instanceMethod M_BY_change.1 ∈ fx_tb := fx_in 765 (by decide +kernel) rfl
theorem s_BY_change : Cond.selects M_BY_change.1.cls M_BY_change.1 M_BY_change.1 ∈ fx_tb := fx_is (y := ⟨"FaxPages$Bytes", "change", "(II)V"⟩) 54 4 (by decide +kernel)
theorem k_LI_packByItself : Cond.code M_LI_packByItself.1 M_LI_packByItself.2.1 M_LI_packByItself.2.2.1 M_LI_packByItself.2.2.2.1 ∈ fx_tb := fx_in 770 (by decide +kernel) rfl
theorem p_LI_packByItself : M_LI_packByItself.1.cls ≠ "java/lang/invoke/MethodHandle" ∧ M_LI_packByItself.1.cls ≠ "java/lang/invoke/VarHandle" ∧ (parseMethodDescriptor M_LI_packByItself.1.desc).map (fun d => d.parameters.length) = some 2 := ⟨by decide, by decide, (by decide +kernel)⟩
theorem v_LI_packByItself : Cond.instanceMethod M_LI_packByItself.1 ∈ fx_tb := fx_in 769 (by decide +kernel) rfl
theorem s_LI_packByItself : Cond.selects M_LI_packByItself.1.cls M_LI_packByItself.1 M_LI_packByItself.1 ∈ fx_tb := fx_is (y := ⟨"FaxPages$Lines", "packByItself", "(LFaxPages$Picture;I)V"⟩) 55 5 (by decide +kernel)
theorem k_LI_runCode : Cond.code M_LI_runCode.1 M_LI_runCode.2.1 M_LI_runCode.2.2.1 M_LI_runCode.2.2.2.1 ∈ fx_tb := fx_in 773 (by decide +kernel) rfl
theorem p_LI_runCode : M_LI_runCode.1.cls ≠ "java/lang/invoke/MethodHandle" ∧ M_LI_runCode.1.cls ≠ "java/lang/invoke/VarHandle" ∧ (parseMethodDescriptor M_LI_runCode.1.desc).map (fun d => d.parameters.length) = some 2 := ⟨by decide, by decide, (by decide +kernel)⟩
theorem v_LI_runCode : Cond.static M_LI_runCode.1 ∈ fx_tb := fx_in 772 (by decide +kernel) rfl
theorem k_BY_appendCode : Cond.code M_BY_appendCode.1 M_BY_appendCode.2.1 M_BY_appendCode.2.2.1 M_BY_appendCode.2.2.2.1 ∈ fx_tb := fx_in 778 (by decide +kernel) rfl
theorem p_BY_appendCode : M_BY_appendCode.1.cls ≠ "java/lang/invoke/MethodHandle" ∧ M_BY_appendCode.1.cls ≠ "java/lang/invoke/VarHandle" ∧ (parseMethodDescriptor M_BY_appendCode.1.desc).map (fun d => d.parameters.length) = some 1 := ⟨by decide, by decide, (by decide +kernel)⟩
theorem v_BY_appendCode : Cond.instanceMethod M_BY_appendCode.1 ∈ fx_tb := fx_in 777 (by decide +kernel) rfl
theorem s_BY_appendCode : Cond.selects M_BY_appendCode.1.cls M_BY_appendCode.1 M_BY_appendCode.1 ∈ fx_tb := fx_is (y := ⟨"FaxPages$Bytes", "appendCode", "(I)V"⟩) 56 4 (by decide +kernel)
theorem k_LI_packByAnother : Cond.code M_LI_packByAnother.1 M_LI_packByAnother.2.1 M_LI_packByAnother.2.2.1 M_LI_packByAnother.2.2.2.1 ∈ fx_tb := fx_in 784 (by decide +kernel) rfl
theorem p_LI_packByAnother : M_LI_packByAnother.1.cls ≠ "java/lang/invoke/MethodHandle" ∧ M_LI_packByAnother.1.cls ≠ "java/lang/invoke/VarHandle" ∧ (parseMethodDescriptor M_LI_packByAnother.1.desc).map (fun d => d.parameters.length) = some 3 := ⟨by decide, by decide, (by decide +kernel)⟩
theorem v_LI_packByAnother : Cond.instanceMethod M_LI_packByAnother.1 ∈ fx_tb := fx_in 783 (by decide +kernel) rfl
theorem s_LI_packByAnother : Cond.selects M_LI_packByAnother.1.cls M_LI_packByAnother.1 M_LI_packByAnother.1 ∈ fx_tb := fx_is (y := ⟨"FaxPages$Lines", "packByAnother", "(LFaxPages$Picture;II)V"⟩) 57 5 (by decide +kernel)
theorem k_BY_endBits : Cond.code M_BY_endBits.1 M_BY_endBits.2.1 M_BY_endBits.2.2.1 M_BY_endBits.2.2.2.1 ∈ fx_tb := fx_in 788 (by decide +kernel) rfl
theorem p_BY_endBits : M_BY_endBits.1.cls ≠ "java/lang/invoke/MethodHandle" ∧ M_BY_endBits.1.cls ≠ "java/lang/invoke/VarHandle" ∧ (parseMethodDescriptor M_BY_endBits.1.desc).map (fun d => d.parameters.length) = some 0 := ⟨by decide, by decide, (by decide +kernel)⟩
theorem v_BY_endBits : Cond.instanceMethod M_BY_endBits.1 ∈ fx_tb := fx_in 787 (by decide +kernel) rfl
theorem s_BY_endBits : Cond.selects M_BY_endBits.1.cls M_BY_endBits.1 M_BY_endBits.1 ∈ fx_tb := fx_is (y := ⟨"FaxPages$Bytes", "endBits", "()V"⟩) 58 4 (by decide +kernel)
theorem k_PL_pack : Cond.code M_PL_pack.1 M_PL_pack.2.1 M_PL_pack.2.2.1 M_PL_pack.2.2.2.1 ∈ fx_tb := fx_in 793 (by decide +kernel) rfl
theorem p_PL_pack : M_PL_pack.1.cls ≠ "java/lang/invoke/MethodHandle" ∧ M_PL_pack.1.cls ≠ "java/lang/invoke/VarHandle" ∧ (parseMethodDescriptor M_PL_pack.1.desc).map (fun d => d.parameters.length) = some 3 := ⟨by decide, by decide, (by decide +kernel)⟩
theorem v_PL_pack : Cond.instanceMethod M_PL_pack.1 ∈ fx_tb := fx_in 791 (by decide +kernel) rfl
theorem k_PI_rowByte : Cond.code M_PI_rowByte.1 M_PI_rowByte.2.1 M_PI_rowByte.2.2.1 M_PI_rowByte.2.2.2.1 ∈ fx_tb := fx_in 797 (by decide +kernel) rfl
theorem p_PI_rowByte : M_PI_rowByte.1.cls ≠ "java/lang/invoke/MethodHandle" ∧ M_PI_rowByte.1.cls ≠ "java/lang/invoke/VarHandle" ∧ (parseMethodDescriptor M_PI_rowByte.1.desc).map (fun d => d.parameters.length) = some 2 := ⟨by decide, by decide, (by decide +kernel)⟩
theorem v_PI_rowByte : Cond.instanceMethod M_PI_rowByte.1 ∈ fx_tb := fx_in 796 (by decide +kernel) rfl
theorem s_PI_rowByte : Cond.selects M_PI_rowByte.1.cls M_PI_rowByte.1 M_PI_rowByte.1 ∈ fx_tb := fx_is (y := ⟨"FaxPages$Picture", "rowByte", "(II)I"⟩) 59 4 (by decide +kernel)
theorem k_RU_pack : Cond.code M_RU_pack.1 M_RU_pack.2.1 M_RU_pack.2.2.1 M_RU_pack.2.2.2.1 ∈ fx_tb := fx_in 803 (by decide +kernel) rfl
theorem p_RU_pack : M_RU_pack.1.cls ≠ "java/lang/invoke/MethodHandle" ∧ M_RU_pack.1.cls ≠ "java/lang/invoke/VarHandle" ∧ (parseMethodDescriptor M_RU_pack.1.desc).map (fun d => d.parameters.length) = some 3 := ⟨by decide, by decide, (by decide +kernel)⟩
theorem v_RU_pack : Cond.instanceMethod M_RU_pack.1 ∈ fx_tb := fx_in 801 (by decide +kernel) rfl
theorem k_RU_packRow : Cond.code M_RU_packRow.1 M_RU_packRow.2.1 M_RU_packRow.2.2.1 M_RU_packRow.2.2.2.1 ∈ fx_tb := fx_in 809 (by decide +kernel) rfl
theorem p_RU_packRow : M_RU_packRow.1.cls ≠ "java/lang/invoke/MethodHandle" ∧ M_RU_packRow.1.cls ≠ "java/lang/invoke/VarHandle" ∧ (parseMethodDescriptor M_RU_packRow.1.desc).map (fun d => d.parameters.length) = some 1 := ⟨by decide, by decide, (by decide +kernel)⟩
theorem v_RU_packRow : Cond.instanceMethod M_RU_packRow.1 ∈ fx_tb := fx_in 808 (by decide +kernel) rfl
theorem s_RU_packRow : Cond.selects M_RU_packRow.1.cls M_RU_packRow.1 M_RU_packRow.1 ∈ fx_tb := fx_is (y := ⟨"FaxPages$Runs", "packRow", "(I)V"⟩) 60 3 (by decide +kernel)
theorem k_RU_endOfSame : Cond.code M_RU_endOfSame.1 M_RU_endOfSame.2.1 M_RU_endOfSame.2.2.1 M_RU_endOfSame.2.2.2.1 ∈ fx_tb := fx_in 813 (by decide +kernel) rfl
theorem p_RU_endOfSame : M_RU_endOfSame.1.cls ≠ "java/lang/invoke/MethodHandle" ∧ M_RU_endOfSame.1.cls ≠ "java/lang/invoke/VarHandle" ∧ (parseMethodDescriptor M_RU_endOfSame.1.desc).map (fun d => d.parameters.length) = some 2 := ⟨by decide, by decide, (by decide +kernel)⟩
theorem v_RU_endOfSame : Cond.instanceMethod M_RU_endOfSame.1 ∈ fx_tb := fx_in 812 (by decide +kernel) rfl
theorem s_RU_endOfSame : Cond.selects M_RU_endOfSame.1.cls M_RU_endOfSame.1 M_RU_endOfSame.1 ∈ fx_tb := fx_is (y := ⟨"FaxPages$Runs", "endOfSame", "(II)I"⟩) 61 3 (by decide +kernel)
theorem k_RU_endOfDifferent : Cond.code M_RU_endOfDifferent.1 M_RU_endOfDifferent.2.1 M_RU_endOfDifferent.2.2.1 M_RU_endOfDifferent.2.2.2.1 ∈ fx_tb := fx_in 818 (by decide +kernel) rfl
theorem p_RU_endOfDifferent : M_RU_endOfDifferent.1.cls ≠ "java/lang/invoke/MethodHandle" ∧ M_RU_endOfDifferent.1.cls ≠ "java/lang/invoke/VarHandle" ∧ (parseMethodDescriptor M_RU_endOfDifferent.1.desc).map (fun d => d.parameters.length) = some 2 := ⟨by decide, by decide, (by decide +kernel)⟩
theorem v_RU_endOfDifferent : Cond.instanceMethod M_RU_endOfDifferent.1 ∈ fx_tb := fx_in 817 (by decide +kernel) rfl
theorem s_RU_endOfDifferent : Cond.selects M_RU_endOfDifferent.1.cls M_RU_endOfDifferent.1 M_RU_endOfDifferent.1 ∈ fx_tb := fx_is (y := ⟨"FaxPages$Runs", "endOfDifferent", "(II)I"⟩) 62 3 (by decide +kernel)
theorem k_TA_pack : Cond.code M_TA_pack.1 M_TA_pack.2.1 M_TA_pack.2.2.1 M_TA_pack.2.2.2.1 ∈ fx_tb := fx_in 823 (by decide +kernel) rfl
theorem p_TA_pack : M_TA_pack.1.cls ≠ "java/lang/invoke/MethodHandle" ∧ M_TA_pack.1.cls ≠ "java/lang/invoke/VarHandle" ∧ (parseMethodDescriptor M_TA_pack.1.desc).map (fun d => d.parameters.length) = some 3 := ⟨by decide, by decide, (by decide +kernel)⟩
theorem v_TA_pack : Cond.instanceMethod M_TA_pack.1 ∈ fx_tb := fx_in 821 (by decide +kernel) rfl
theorem k_TA_collect : Cond.code M_TA_collect.1 M_TA_collect.2.1 M_TA_collect.2.2.1 M_TA_collect.2.2.2.1 ∈ fx_tb := fx_in 827 (by decide +kernel) rfl
theorem p_TA_collect : M_TA_collect.1.cls ≠ "java/lang/invoke/MethodHandle" ∧ M_TA_collect.1.cls ≠ "java/lang/invoke/VarHandle" ∧ (parseMethodDescriptor M_TA_collect.1.desc).map (fun d => d.parameters.length) = some 3 := ⟨by decide, by decide, (by decide +kernel)⟩
theorem v_TA_collect : Cond.instanceMethod M_TA_collect.1 ∈ fx_tb := fx_in 826 (by decide +kernel) rfl
theorem s_TA_collect : Cond.selects M_TA_collect.1.cls M_TA_collect.1 M_TA_collect.1 ∈ fx_tb := fx_is (y := ⟨"FaxPages$Table", "collect", "(LFaxPages$Picture;II)I"⟩) 63 10 (by decide +kernel)
theorem k_TA_longerEntry : Cond.code M_TA_longerEntry.1 M_TA_longerEntry.2.1 M_TA_longerEntry.2.2.1 M_TA_longerEntry.2.2.2.1 ∈ fx_tb := fx_in 834 (by decide +kernel) rfl
theorem p_TA_longerEntry : M_TA_longerEntry.1.cls ≠ "java/lang/invoke/MethodHandle" ∧ M_TA_longerEntry.1.cls ≠ "java/lang/invoke/VarHandle" ∧ (parseMethodDescriptor M_TA_longerEntry.1.desc).map (fun d => d.parameters.length) = some 2 := ⟨by decide, by decide, (by decide +kernel)⟩
theorem v_TA_longerEntry : Cond.instanceMethod M_TA_longerEntry.1 ∈ fx_tb := fx_in 833 (by decide +kernel) rfl
theorem s_TA_longerEntry : Cond.selects M_TA_longerEntry.1.cls M_TA_longerEntry.1 M_TA_longerEntry.1 ∈ fx_tb := fx_is (y := ⟨"FaxPages$Table", "longerEntry", "(II)I"⟩) 64 10 (by decide +kernel)
theorem k_TA_packCode : Cond.code M_TA_packCode.1 M_TA_packCode.2.1 M_TA_packCode.2.2.1 M_TA_packCode.2.2.2.1 ∈ fx_tb := fx_in 838 (by decide +kernel) rfl
theorem p_TA_packCode : M_TA_packCode.1.cls ≠ "java/lang/invoke/MethodHandle" ∧ M_TA_packCode.1.cls ≠ "java/lang/invoke/VarHandle" ∧ (parseMethodDescriptor M_TA_packCode.1.desc).map (fun d => d.parameters.length) = some 1 := ⟨by decide, by decide, (by decide +kernel)⟩
theorem v_TA_packCode : Cond.instanceMethod M_TA_packCode.1 ∈ fx_tb := fx_in 837 (by decide +kernel) rfl
theorem s_TA_packCode : Cond.selects M_TA_packCode.1.cls M_TA_packCode.1 M_TA_packCode.1 ∈ fx_tb := fx_is (y := ⟨"FaxPages$Table", "packCode", "(I)V"⟩) 65 10 (by decide +kernel)
theorem k_TA_makeEntry : Cond.code M_TA_makeEntry.1 M_TA_makeEntry.2.1 M_TA_makeEntry.2.2.1 M_TA_makeEntry.2.2.2.1 ∈ fx_tb := fx_in 842 (by decide +kernel) rfl
theorem p_TA_makeEntry : M_TA_makeEntry.1.cls ≠ "java/lang/invoke/MethodHandle" ∧ M_TA_makeEntry.1.cls ≠ "java/lang/invoke/VarHandle" ∧ (parseMethodDescriptor M_TA_makeEntry.1.desc).map (fun d => d.parameters.length) = some 2 := ⟨by decide, by decide, (by decide +kernel)⟩
theorem v_TA_makeEntry : Cond.instanceMethod M_TA_makeEntry.1 ∈ fx_tb := fx_in 841 (by decide +kernel) rfl
theorem s_TA_makeEntry : Cond.selects M_TA_makeEntry.1.cls M_TA_makeEntry.1 M_TA_makeEntry.1 ∈ fx_tb := fx_is (y := ⟨"FaxPages$Table", "makeEntry", "(II)V"⟩) 66 10 (by decide +kernel)
theorem k_FP_writeTags : Cond.code M_FP_writeTags.1 M_FP_writeTags.2.1 M_FP_writeTags.2.2.1 M_FP_writeTags.2.2.2.1 ∈ fx_tb := fx_in 847 (by decide +kernel) rfl
theorem p_FP_writeTags : M_FP_writeTags.1.cls ≠ "java/lang/invoke/MethodHandle" ∧ M_FP_writeTags.1.cls ≠ "java/lang/invoke/VarHandle" ∧ (parseMethodDescriptor M_FP_writeTags.1.desc).map (fun d => d.parameters.length) = some 3 := ⟨by decide, by decide, (by decide +kernel)⟩
theorem v_FP_writeTags : Cond.instanceMethod M_FP_writeTags.1 ∈ fx_tb := fx_in 846 (by decide +kernel) rfl
theorem s_FP_writeTags : Cond.selects M_FP_writeTags.1.cls M_FP_writeTags.1 M_FP_writeTags.1 ∈ fx_tb := fx_is (y := ⟨"FaxPages", "writeTags", "(III)V"⟩) 67 17 (by decide +kernel)
theorem k_FP_appendLongs : Cond.code M_FP_appendLongs.1 M_FP_appendLongs.2.1 M_FP_appendLongs.2.2.1 M_FP_appendLongs.2.2.2.1 ∈ fx_tb := fx_in 851 (by decide +kernel) rfl
theorem p_FP_appendLongs : M_FP_appendLongs.1.cls ≠ "java/lang/invoke/MethodHandle" ∧ M_FP_appendLongs.1.cls ≠ "java/lang/invoke/VarHandle" ∧ (parseMethodDescriptor M_FP_appendLongs.1.desc).map (fun d => d.parameters.length) = some 2 := ⟨by decide, by decide, (by decide +kernel)⟩
theorem v_FP_appendLongs : Cond.instanceMethod M_FP_appendLongs.1 ∈ fx_tb := fx_in 850 (by decide +kernel) rfl
theorem s_FP_appendLongs : Cond.selects M_FP_appendLongs.1.cls M_FP_appendLongs.1 M_FP_appendLongs.1 ∈ fx_tb := fx_is (y := ⟨"FaxPages", "appendLongs", "([II)I"⟩) 68 17 (by decide +kernel)
theorem k_BY_changeNumber : Cond.code M_BY_changeNumber.1 M_BY_changeNumber.2.1 M_BY_changeNumber.2.2.1 M_BY_changeNumber.2.2.2.1 ∈ fx_tb := fx_in 856 (by decide +kernel) rfl
theorem p_BY_changeNumber : M_BY_changeNumber.1.cls ≠ "java/lang/invoke/MethodHandle" ∧ M_BY_changeNumber.1.cls ≠ "java/lang/invoke/VarHandle" ∧ (parseMethodDescriptor M_BY_changeNumber.1.desc).map (fun d => d.parameters.length) = some 3 := ⟨by decide, by decide, (by decide +kernel)⟩
theorem v_BY_changeNumber : Cond.instanceMethod M_BY_changeNumber.1 ∈ fx_tb := fx_in 855 (by decide +kernel) rfl
theorem s_BY_changeNumber : Cond.selects M_BY_changeNumber.1.cls M_BY_changeNumber.1 M_BY_changeNumber.1 ∈ fx_tb := fx_is (y := ⟨"FaxPages$Bytes", "changeNumber", "(III)V"⟩) 69 4 (by decide +kernel)
theorem k_FP_appendShortTag : Cond.code M_FP_appendShortTag.1 M_FP_appendShortTag.2.1 M_FP_appendShortTag.2.2.1 M_FP_appendShortTag.2.2.2.1 ∈ fx_tb := fx_in 861 (by decide +kernel) rfl
theorem p_FP_appendShortTag : M_FP_appendShortTag.1.cls ≠ "java/lang/invoke/MethodHandle" ∧ M_FP_appendShortTag.1.cls ≠ "java/lang/invoke/VarHandle" ∧ (parseMethodDescriptor M_FP_appendShortTag.1.desc).map (fun d => d.parameters.length) = some 2 := ⟨by decide, by decide, (by decide +kernel)⟩
theorem v_FP_appendShortTag : Cond.instanceMethod M_FP_appendShortTag.1 ∈ fx_tb := fx_in 860 (by decide +kernel) rfl
theorem s_FP_appendShortTag : Cond.selects M_FP_appendShortTag.1.cls M_FP_appendShortTag.1 M_FP_appendShortTag.1 ∈ fx_tb := fx_is (y := ⟨"FaxPages", "appendShortTag", "(II)V"⟩) 70 17 (by decide +kernel)
theorem k_FP_appendLongTag : Cond.code M_FP_appendLongTag.1 M_FP_appendLongTag.2.1 M_FP_appendLongTag.2.2.1 M_FP_appendLongTag.2.2.2.1 ∈ fx_tb := fx_in 865 (by decide +kernel) rfl
theorem p_FP_appendLongTag : M_FP_appendLongTag.1.cls ≠ "java/lang/invoke/MethodHandle" ∧ M_FP_appendLongTag.1.cls ≠ "java/lang/invoke/VarHandle" ∧ (parseMethodDescriptor M_FP_appendLongTag.1.desc).map (fun d => d.parameters.length) = some 3 := ⟨by decide, by decide, (by decide +kernel)⟩
theorem v_FP_appendLongTag : Cond.instanceMethod M_FP_appendLongTag.1 ∈ fx_tb := fx_in 864 (by decide +kernel) rfl
theorem s_FP_appendLongTag : Cond.selects M_FP_appendLongTag.1.cls M_FP_appendLongTag.1 M_FP_appendLongTag.1 ∈ fx_tb := fx_is (y := ⟨"FaxPages", "appendLongTag", "(III)V"⟩) 71 17 (by decide +kernel)
theorem p_LW_put : M_LW_put.1.cls ≠ "java/lang/invoke/MethodHandle" ∧ M_LW_put.1.cls ≠ "java/lang/invoke/VarHandle" ∧ (parseMethodDescriptor M_LW_put.1.desc).map (fun d => d.parameters.length) = some 4 := ⟨by decide, by decide, (by decide +kernel)⟩
theorem v_LW_put : Cond.static M_LW_put.1 ∈ fx_tb := fx_in 867 (by decide +kernel) rfl
theorem k_FP_put : Cond.code M_FP_put.1 M_FP_put.2.1 M_FP_put.2.2.1 M_FP_put.2.2.2.1 ∈ fx_tb := fx_in 872 (by decide +kernel) rfl
theorem p_FP_put : M_FP_put.1.cls ≠ "java/lang/invoke/MethodHandle" ∧ M_FP_put.1.cls ≠ "java/lang/invoke/VarHandle" ∧ (parseMethodDescriptor M_FP_put.1.desc).map (fun d => d.parameters.length) = some 2 := ⟨by decide, by decide, (by decide +kernel)⟩
theorem v_FP_put : Cond.instanceMethod M_FP_put.1 ∈ fx_tb := fx_in 870 (by decide +kernel) rfl
theorem s_FP_put : Cond.selects M_FP_put.1.cls M_FP_put.1 M_FP_put.1 ∈ fx_tb := fx_in 871 (by decide +kernel) rfl
theorem p_LW_cut : M_LW_cut.1.cls ≠ "java/lang/invoke/MethodHandle" ∧ M_LW_cut.1.cls ≠ "java/lang/invoke/VarHandle" ∧ (parseMethodDescriptor M_LW_cut.1.desc).map (fun d => d.parameters.length) = some 3 := ⟨by decide, by decide, (by decide +kernel)⟩
theorem v_LW_cut : Cond.static M_LW_cut.1 ∈ fx_tb := fx_in 875 (by decide +kernel) rfl
theorem k_FP_cut : Cond.code M_FP_cut.1 M_FP_cut.2.1 M_FP_cut.2.2.1 M_FP_cut.2.2.2.1 ∈ fx_tb := fx_in 880 (by decide +kernel) rfl
theorem p_FP_cut : M_FP_cut.1.cls ≠ "java/lang/invoke/MethodHandle" ∧ M_FP_cut.1.cls ≠ "java/lang/invoke/VarHandle" ∧ (parseMethodDescriptor M_FP_cut.1.desc).map (fun d => d.parameters.length) = some 1 := ⟨by decide, by decide, (by decide +kernel)⟩
theorem v_FP_cut : Cond.instanceMethod M_FP_cut.1 ∈ fx_tb := fx_in 878 (by decide +kernel) rfl
theorem s_FP_cut : Cond.selects M_FP_cut.1.cls M_FP_cut.1 M_FP_cut.1 ∈ fx_tb := fx_in 879 (by decide +kernel) rfl
theorem k_BY_keep : Cond.code M_BY_keep.1 M_BY_keep.2.1 M_BY_keep.2.2.1 M_BY_keep.2.2.2.1 ∈ fx_tb := fx_in 884 (by decide +kernel) rfl
theorem p_BY_keep : M_BY_keep.1.cls ≠ "java/lang/invoke/MethodHandle" ∧ M_BY_keep.1.cls ≠ "java/lang/invoke/VarHandle" ∧ (parseMethodDescriptor M_BY_keep.1.desc).map (fun d => d.parameters.length) = some 1 := ⟨by decide, by decide, (by decide +kernel)⟩
theorem v_BY_keep : Cond.instanceMethod M_BY_keep.1 ∈ fx_tb := fx_in 883 (by decide +kernel) rfl
theorem s_BY_keep : Cond.selects M_BY_keep.1.cls M_BY_keep.1 M_BY_keep.1 ∈ fx_tb := fx_is (y := ⟨"FaxPages$Bytes", "keep", "(I)V"⟩) 72 4 (by decide +kernel)
theorem i_MO : Cond.initialized "FaxPagesModel" ∈ fx_tb := fx_in 13 (by decide +kernel) rfl
theorem k_MO_init : Cond.code M_MO_init.1 M_MO_init.2.1 M_MO_init.2.2.1 M_MO_init.2.2.2.1 ∈ fx_tb := fx_in 890 (by decide +kernel) rfl
theorem p_MO_init : M_MO_init.1.cls ≠ "java/lang/invoke/MethodHandle" ∧ M_MO_init.1.cls ≠ "java/lang/invoke/VarHandle" ∧ (parseMethodDescriptor M_MO_init.1.desc).map (fun d => d.parameters.length) = some 0 := ⟨by decide, by decide, (by decide +kernel)⟩
theorem v_MO_init : Cond.instanceMethod M_MO_init.1 ∈ fx_tb := fx_in 889 (by decide +kernel) rfl
theorem k_MO_fill : Cond.code M_MO_fill.1 M_MO_fill.2.1 M_MO_fill.2.2.1 M_MO_fill.2.2.2.1 ∈ fx_tb := fx_in 895 (by decide +kernel) rfl
theorem p_MO_fill : M_MO_fill.1.cls ≠ "java/lang/invoke/MethodHandle" ∧ M_MO_fill.1.cls ≠ "java/lang/invoke/VarHandle" ∧ (parseMethodDescriptor M_MO_fill.1.desc).map (fun d => d.parameters.length) = some 7 := ⟨by decide, by decide, (by decide +kernel)⟩
theorem v_MO_fill : Cond.instanceMethod M_MO_fill.1 ∈ fx_tb := fx_in 894 (by decide +kernel) rfl
theorem s_MO_fill : Cond.selects M_MO_fill.1.cls M_MO_fill.1 M_MO_fill.1 ∈ fx_tb := fx_is (y := ⟨"FaxPagesModel", "fill", "(IIIIIII)V"⟩) 73 37 (by decide +kernel)
theorem k_MO_thrown : Cond.code M_MO_thrown.1 M_MO_thrown.2.1 M_MO_thrown.2.2.1 M_MO_thrown.2.2.2.1 ∈ fx_tb := fx_in 1013 (by decide +kernel) rfl
theorem p_MO_thrown : M_MO_thrown.1.cls ≠ "java/lang/invoke/MethodHandle" ∧ M_MO_thrown.1.cls ≠ "java/lang/invoke/VarHandle" ∧ (parseMethodDescriptor M_MO_thrown.1.desc).map (fun d => d.parameters.length) = some 0 := ⟨by decide, by decide, (by decide +kernel)⟩
theorem v_MO_thrown : Cond.instanceMethod M_MO_thrown.1 ∈ fx_tb := fx_in 1011 (by decide +kernel) rfl
theorem s_MO_thrown : Cond.selects M_MO_thrown.1.cls M_MO_thrown.1 M_MO_thrown.1 ∈ fx_tb := fx_in 1012 (by decide +kernel) rfl
theorem k_MO_blank : Cond.code M_MO_blank.1 M_MO_blank.2.1 M_MO_blank.2.2.1 M_MO_blank.2.2.2.1 ∈ fx_tb := fx_in 1017 (by decide +kernel) rfl
theorem p_MO_blank : M_MO_blank.1.cls ≠ "java/lang/invoke/MethodHandle" ∧ M_MO_blank.1.cls ≠ "java/lang/invoke/VarHandle" ∧ (parseMethodDescriptor M_MO_blank.1.desc).map (fun d => d.parameters.length) = some 3 := ⟨by decide, by decide, (by decide +kernel)⟩
theorem v_MO_blank : Cond.instanceMethod M_MO_blank.1 ∈ fx_tb := fx_in 1015 (by decide +kernel) rfl
theorem s_MO_blank : Cond.selects M_MO_blank.1.cls M_MO_blank.1 M_MO_blank.1 ∈ fx_tb := fx_in 1016 (by decide +kernel) rfl
theorem k_MO_isSize : Cond.code M_MO_isSize.1 M_MO_isSize.2.1 M_MO_isSize.2.2.1 M_MO_isSize.2.2.2.1 ∈ fx_tb := fx_in 1020 (by decide +kernel) rfl
theorem p_MO_isSize : M_MO_isSize.1.cls ≠ "java/lang/invoke/MethodHandle" ∧ M_MO_isSize.1.cls ≠ "java/lang/invoke/VarHandle" ∧ (parseMethodDescriptor M_MO_isSize.1.desc).map (fun d => d.parameters.length) = some 3 := ⟨by decide, by decide, (by decide +kernel)⟩
theorem v_MO_isSize : Cond.static M_MO_isSize.1 ∈ fx_tb := fx_in 1019 (by decide +kernel) rfl
theorem k_MO_refused : Cond.code M_MO_refused.1 M_MO_refused.2.1 M_MO_refused.2.2.1 M_MO_refused.2.2.2.1 ∈ fx_tb := fx_in 1027 (by decide +kernel) rfl
theorem p_MO_refused : M_MO_refused.1.cls ≠ "java/lang/invoke/MethodHandle" ∧ M_MO_refused.1.cls ≠ "java/lang/invoke/VarHandle" ∧ (parseMethodDescriptor M_MO_refused.1.desc).map (fun d => d.parameters.length) = some 2 := ⟨by decide, by decide, (by decide +kernel)⟩
theorem v_MO_refused : Cond.instanceMethod M_MO_refused.1 ∈ fx_tb := fx_in 1026 (by decide +kernel) rfl
theorem s_MO_refused : Cond.selects M_MO_refused.1.cls M_MO_refused.1 M_MO_refused.1 ∈ fx_tb := fx_is (y := ⟨"FaxPagesModel", "refused", "(ZZ)Z"⟩) 74 37 (by decide +kernel)
theorem k_MO_set : Cond.code M_MO_set.1 M_MO_set.2.1 M_MO_set.2.2.1 M_MO_set.2.2.2.1 ∈ fx_tb := fx_in 1031 (by decide +kernel) rfl
theorem p_MO_set : M_MO_set.1.cls ≠ "java/lang/invoke/MethodHandle" ∧ M_MO_set.1.cls ≠ "java/lang/invoke/VarHandle" ∧ (parseMethodDescriptor M_MO_set.1.desc).map (fun d => d.parameters.length) = some 3 := ⟨by decide, by decide, (by decide +kernel)⟩
theorem v_MO_set : Cond.instanceMethod M_MO_set.1 ∈ fx_tb := fx_in 1029 (by decide +kernel) rfl
theorem s_MO_set : Cond.selects M_MO_set.1.cls M_MO_set.1 M_MO_set.1 ∈ fx_tb := fx_in 1030 (by decide +kernel) rfl
theorem k_MO_isPixel : Cond.code M_MO_isPixel.1 M_MO_isPixel.2.1 M_MO_isPixel.2.2.1 M_MO_isPixel.2.2.2.1 ∈ fx_tb := fx_in 1035 (by decide +kernel) rfl
theorem p_MO_isPixel : M_MO_isPixel.1.cls ≠ "java/lang/invoke/MethodHandle" ∧ M_MO_isPixel.1.cls ≠ "java/lang/invoke/VarHandle" ∧ (parseMethodDescriptor M_MO_isPixel.1.desc).map (fun d => d.parameters.length) = some 2 := ⟨by decide, by decide, (by decide +kernel)⟩
theorem v_MO_isPixel : Cond.instanceMethod M_MO_isPixel.1 ∈ fx_tb := fx_in 1034 (by decide +kernel) rfl
theorem s_MO_isPixel : Cond.selects M_MO_isPixel.1.cls M_MO_isPixel.1 M_MO_isPixel.1 ∈ fx_tb := fx_is (y := ⟨"FaxPagesModel", "isPixel", "(II)Z"⟩) 75 37 (by decide +kernel)
theorem k_MO_get : Cond.code M_MO_get.1 M_MO_get.2.1 M_MO_get.2.2.1 M_MO_get.2.2.2.1 ∈ fx_tb := fx_in 1039 (by decide +kernel) rfl
theorem p_MO_get : M_MO_get.1.cls ≠ "java/lang/invoke/MethodHandle" ∧ M_MO_get.1.cls ≠ "java/lang/invoke/VarHandle" ∧ (parseMethodDescriptor M_MO_get.1.desc).map (fun d => d.parameters.length) = some 2 := ⟨by decide, by decide, (by decide +kernel)⟩
theorem v_MO_get : Cond.instanceMethod M_MO_get.1 ∈ fx_tb := fx_in 1037 (by decide +kernel) rfl
theorem s_MO_get : Cond.selects M_MO_get.1.cls M_MO_get.1 M_MO_get.1 ∈ fx_tb := fx_in 1038 (by decide +kernel) rfl
theorem k_MO_info : Cond.code M_MO_info.1 M_MO_info.2.1 M_MO_info.2.2.1 M_MO_info.2.2.2.1 ∈ fx_tb := fx_in 1043 (by decide +kernel) rfl
theorem p_MO_info : M_MO_info.1.cls ≠ "java/lang/invoke/MethodHandle" ∧ M_MO_info.1.cls ≠ "java/lang/invoke/VarHandle" ∧ (parseMethodDescriptor M_MO_info.1.desc).map (fun d => d.parameters.length) = some 1 := ⟨by decide, by decide, (by decide +kernel)⟩
theorem v_MO_info : Cond.instanceMethod M_MO_info.1 ∈ fx_tb := fx_in 1041 (by decide +kernel) rfl
theorem s_MO_info : Cond.selects M_MO_info.1.cls M_MO_info.1 M_MO_info.1 ∈ fx_tb := fx_in 1042 (by decide +kernel) rfl
theorem k_MO_write : Cond.code M_MO_write.1 M_MO_write.2.1 M_MO_write.2.2.1 M_MO_write.2.2.2.1 ∈ fx_tb := fx_in 1047 (by decide +kernel) rfl
theorem p_MO_write : M_MO_write.1.cls ≠ "java/lang/invoke/MethodHandle" ∧ M_MO_write.1.cls ≠ "java/lang/invoke/VarHandle" ∧ (parseMethodDescriptor M_MO_write.1.desc).map (fun d => d.parameters.length) = some 3 := ⟨by decide, by decide, (by decide +kernel)⟩
theorem v_MO_write : Cond.instanceMethod M_MO_write.1 ∈ fx_tb := fx_in 1045 (by decide +kernel) rfl
theorem s_MO_write : Cond.selects M_MO_write.1.cls M_MO_write.1 M_MO_write.1 ∈ fx_tb := fx_in 1046 (by decide +kernel) rfl
theorem k_MO_isScheme : Cond.code M_MO_isScheme.1 M_MO_isScheme.2.1 M_MO_isScheme.2.2.1 M_MO_isScheme.2.2.2.1 ∈ fx_tb := fx_in 1050 (by decide +kernel) rfl
theorem p_MO_isScheme : M_MO_isScheme.1.cls ≠ "java/lang/invoke/MethodHandle" ∧ M_MO_isScheme.1.cls ≠ "java/lang/invoke/VarHandle" ∧ (parseMethodDescriptor M_MO_isScheme.1.desc).map (fun d => d.parameters.length) = some 1 := ⟨by decide, by decide, (by decide +kernel)⟩
theorem v_MO_isScheme : Cond.static M_MO_isScheme.1 ∈ fx_tb := fx_in 1049 (by decide +kernel) rfl
theorem k_MO_out : Cond.code M_MO_out.1 M_MO_out.2.1 M_MO_out.2.2.1 M_MO_out.2.2.2.1 ∈ fx_tb := fx_in 1058 (by decide +kernel) rfl
theorem p_MO_out : M_MO_out.1.cls ≠ "java/lang/invoke/MethodHandle" ∧ M_MO_out.1.cls ≠ "java/lang/invoke/VarHandle" ∧ (parseMethodDescriptor M_MO_out.1.desc).map (fun d => d.parameters.length) = some 1 := ⟨by decide, by decide, (by decide +kernel)⟩
theorem v_MO_out : Cond.instanceMethod M_MO_out.1 ∈ fx_tb := fx_in 1057 (by decide +kernel) rfl
theorem s_MO_out : Cond.selects M_MO_out.1.cls M_MO_out.1 M_MO_out.1 ∈ fx_tb := fx_is (y := ⟨"FaxPagesModel", "out", "(I)V"⟩) 76 37 (by decide +kernel)
theorem k_MO_outNumber : Cond.code M_MO_outNumber.1 M_MO_outNumber.2.1 M_MO_outNumber.2.2.1 M_MO_outNumber.2.2.2.1 ∈ fx_tb := fx_in 1062 (by decide +kernel) rfl
theorem p_MO_outNumber : M_MO_outNumber.1.cls ≠ "java/lang/invoke/MethodHandle" ∧ M_MO_outNumber.1.cls ≠ "java/lang/invoke/VarHandle" ∧ (parseMethodDescriptor M_MO_outNumber.1.desc).map (fun d => d.parameters.length) = some 2 := ⟨by decide, by decide, (by decide +kernel)⟩
theorem v_MO_outNumber : Cond.instanceMethod M_MO_outNumber.1 ∈ fx_tb := fx_in 1061 (by decide +kernel) rfl
theorem s_MO_outNumber : Cond.selects M_MO_outNumber.1.cls M_MO_outNumber.1 M_MO_outNumber.1 ∈ fx_tb := fx_is (y := ⟨"FaxPagesModel", "outNumber", "(II)V"⟩) 77 37 (by decide +kernel)
theorem k_MO_rowsOf : Cond.code M_MO_rowsOf.1 M_MO_rowsOf.2.1 M_MO_rowsOf.2.2.1 M_MO_rowsOf.2.2.2.1 ∈ fx_tb := fx_in 1065 (by decide +kernel) rfl
theorem p_MO_rowsOf : M_MO_rowsOf.1.cls ≠ "java/lang/invoke/MethodHandle" ∧ M_MO_rowsOf.1.cls ≠ "java/lang/invoke/VarHandle" ∧ (parseMethodDescriptor M_MO_rowsOf.1.desc).map (fun d => d.parameters.length) = some 3 := ⟨by decide, by decide, (by decide +kernel)⟩
theorem v_MO_rowsOf : Cond.static M_MO_rowsOf.1 ∈ fx_tb := fx_in 1064 (by decide +kernel) rfl
theorem k_MO_outStrip : Cond.code M_MO_outStrip.1 M_MO_outStrip.2.1 M_MO_outStrip.2.2.1 M_MO_outStrip.2.2.2.1 ∈ fx_tb := fx_in 1069 (by decide +kernel) rfl
theorem p_MO_outStrip : M_MO_outStrip.1.cls ≠ "java/lang/invoke/MethodHandle" ∧ M_MO_outStrip.1.cls ≠ "java/lang/invoke/VarHandle" ∧ (parseMethodDescriptor M_MO_outStrip.1.desc).map (fun d => d.parameters.length) = some 2 := ⟨by decide, by decide, (by decide +kernel)⟩
theorem v_MO_outStrip : Cond.instanceMethod M_MO_outStrip.1 ∈ fx_tb := fx_in 1068 (by decide +kernel) rfl
theorem s_MO_outStrip : Cond.selects M_MO_outStrip.1.cls M_MO_outStrip.1 M_MO_outStrip.1 ∈ fx_tb := fx_is (y := ⟨"FaxPagesModel", "outStrip", "(II)V"⟩) 78 37 (by decide +kernel)
theorem k_MO_gather : Cond.code M_MO_gather.1 M_MO_gather.2.1 M_MO_gather.2.2.1 M_MO_gather.2.2.2.1 ∈ fx_tb := fx_in 1073 (by decide +kernel) rfl
theorem p_MO_gather : M_MO_gather.1.cls ≠ "java/lang/invoke/MethodHandle" ∧ M_MO_gather.1.cls ≠ "java/lang/invoke/VarHandle" ∧ (parseMethodDescriptor M_MO_gather.1.desc).map (fun d => d.parameters.length) = some 2 := ⟨by decide, by decide, (by decide +kernel)⟩
theorem v_MO_gather : Cond.instanceMethod M_MO_gather.1 ∈ fx_tb := fx_in 1072 (by decide +kernel) rfl
theorem s_MO_gather : Cond.selects M_MO_gather.1.cls M_MO_gather.1 M_MO_gather.1 ∈ fx_tb := fx_is (y := ⟨"FaxPagesModel", "gather", "(II)V"⟩) 79 37 (by decide +kernel)
theorem k_MO_rowBytes : Cond.code M_MO_rowBytes.1 M_MO_rowBytes.2.1 M_MO_rowBytes.2.2.1 M_MO_rowBytes.2.2.2.1 ∈ fx_tb := fx_in 1077 (by decide +kernel) rfl
theorem p_MO_rowBytes : M_MO_rowBytes.1.cls ≠ "java/lang/invoke/MethodHandle" ∧ M_MO_rowBytes.1.cls ≠ "java/lang/invoke/VarHandle" ∧ (parseMethodDescriptor M_MO_rowBytes.1.desc).map (fun d => d.parameters.length) = some 0 := ⟨by decide, by decide, (by decide +kernel)⟩
theorem v_MO_rowBytes : Cond.instanceMethod M_MO_rowBytes.1 ∈ fx_tb := fx_in 1076 (by decide +kernel) rfl
theorem s_MO_rowBytes : Cond.selects M_MO_rowBytes.1.cls M_MO_rowBytes.1 M_MO_rowBytes.1 ∈ fx_tb := fx_is (y := ⟨"FaxPagesModel", "rowBytes", "()I"⟩) 80 37 (by decide +kernel)
theorem k_MO_outRuns : Cond.code M_MO_outRuns.1 M_MO_outRuns.2.1 M_MO_outRuns.2.2.1 M_MO_outRuns.2.2.2.1 ∈ fx_tb := fx_in 1081 (by decide +kernel) rfl
theorem p_MO_outRuns : M_MO_outRuns.1.cls ≠ "java/lang/invoke/MethodHandle" ∧ M_MO_outRuns.1.cls ≠ "java/lang/invoke/VarHandle" ∧ (parseMethodDescriptor M_MO_outRuns.1.desc).map (fun d => d.parameters.length) = some 0 := ⟨by decide, by decide, (by decide +kernel)⟩
theorem v_MO_outRuns : Cond.instanceMethod M_MO_outRuns.1 ∈ fx_tb := fx_in 1080 (by decide +kernel) rfl
theorem s_MO_outRuns : Cond.selects M_MO_outRuns.1.cls M_MO_outRuns.1 M_MO_outRuns.1 ∈ fx_tb := fx_is (y := ⟨"FaxPagesModel", "outRuns", "()V"⟩) 81 37 (by decide +kernel)
theorem k_MO_outTable : Cond.code M_MO_outTable.1 M_MO_outTable.2.1 M_MO_outTable.2.2.1 M_MO_outTable.2.2.2.1 ∈ fx_tb := fx_in 1085 (by decide +kernel) rfl
theorem p_MO_outTable : M_MO_outTable.1.cls ≠ "java/lang/invoke/MethodHandle" ∧ M_MO_outTable.1.cls ≠ "java/lang/invoke/VarHandle" ∧ (parseMethodDescriptor M_MO_outTable.1.desc).map (fun d => d.parameters.length) = some 0 := ⟨by decide, by decide, (by decide +kernel)⟩
theorem v_MO_outTable : Cond.instanceMethod M_MO_outTable.1 ∈ fx_tb := fx_in 1084 (by decide +kernel) rfl
theorem s_MO_outTable : Cond.selects M_MO_outTable.1.cls M_MO_outTable.1 M_MO_outTable.1 ∈ fx_tb := fx_is (y := ⟨"FaxPagesModel", "outTable", "()V"⟩) 82 37 (by decide +kernel)
theorem k_MO_outBits : Cond.code M_MO_outBits.1 M_MO_outBits.2.1 M_MO_outBits.2.2.1 M_MO_outBits.2.2.2.1 ∈ fx_tb := fx_in 1089 (by decide +kernel) rfl
theorem p_MO_outBits : M_MO_outBits.1.cls ≠ "java/lang/invoke/MethodHandle" ∧ M_MO_outBits.1.cls ≠ "java/lang/invoke/VarHandle" ∧ (parseMethodDescriptor M_MO_outBits.1.desc).map (fun d => d.parameters.length) = some 2 := ⟨by decide, by decide, (by decide +kernel)⟩
theorem v_MO_outBits : Cond.instanceMethod M_MO_outBits.1 ∈ fx_tb := fx_in 1088 (by decide +kernel) rfl
theorem s_MO_outBits : Cond.selects M_MO_outBits.1.cls M_MO_outBits.1 M_MO_outBits.1 ∈ fx_tb := fx_is (y := ⟨"FaxPagesModel", "outBits", "(II)V"⟩) 83 37 (by decide +kernel)
theorem k_MO_outBit : Cond.code M_MO_outBit.1 M_MO_outBit.2.1 M_MO_outBit.2.2.1 M_MO_outBit.2.2.2.1 ∈ fx_tb := fx_in 1093 (by decide +kernel) rfl
theorem p_MO_outBit : M_MO_outBit.1.cls ≠ "java/lang/invoke/MethodHandle" ∧ M_MO_outBit.1.cls ≠ "java/lang/invoke/VarHandle" ∧ (parseMethodDescriptor M_MO_outBit.1.desc).map (fun d => d.parameters.length) = some 1 := ⟨by decide, by decide, (by decide +kernel)⟩
theorem v_MO_outBit : Cond.instanceMethod M_MO_outBit.1 ∈ fx_tb := fx_in 1092 (by decide +kernel) rfl
theorem s_MO_outBit : Cond.selects M_MO_outBit.1.cls M_MO_outBit.1 M_MO_outBit.1 ∈ fx_tb := fx_is (y := ⟨"FaxPagesModel", "outBit", "(I)V"⟩) 84 37 (by decide +kernel)
theorem k_MO_longer : Cond.code M_MO_longer.1 M_MO_longer.2.1 M_MO_longer.2.2.1 M_MO_longer.2.2.2.1 ∈ fx_tb := fx_in 1097 (by decide +kernel) rfl
theorem p_MO_longer : M_MO_longer.1.cls ≠ "java/lang/invoke/MethodHandle" ∧ M_MO_longer.1.cls ≠ "java/lang/invoke/VarHandle" ∧ (parseMethodDescriptor M_MO_longer.1.desc).map (fun d => d.parameters.length) = some 2 := ⟨by decide, by decide, (by decide +kernel)⟩
theorem v_MO_longer : Cond.instanceMethod M_MO_longer.1 ∈ fx_tb := fx_in 1096 (by decide +kernel) rfl
theorem s_MO_longer : Cond.selects M_MO_longer.1.cls M_MO_longer.1 M_MO_longer.1 ∈ fx_tb := fx_is (y := ⟨"FaxPagesModel", "longer", "(II)I"⟩) 85 37 (by decide +kernel)
theorem k_MO_digitsOf : Cond.code M_MO_digitsOf.1 M_MO_digitsOf.2.1 M_MO_digitsOf.2.2.1 M_MO_digitsOf.2.2.2.1 ∈ fx_tb := fx_in 1100 (by decide +kernel) rfl
theorem p_MO_digitsOf : M_MO_digitsOf.1.cls ≠ "java/lang/invoke/MethodHandle" ∧ M_MO_digitsOf.1.cls ≠ "java/lang/invoke/VarHandle" ∧ (parseMethodDescriptor M_MO_digitsOf.1.desc).map (fun d => d.parameters.length) = some 1 := ⟨by decide, by decide, (by decide +kernel)⟩
theorem v_MO_digitsOf : Cond.static M_MO_digitsOf.1 ∈ fx_tb := fx_in 1099 (by decide +kernel) rfl
theorem k_MO_make : Cond.code M_MO_make.1 M_MO_make.2.1 M_MO_make.2.2.1 M_MO_make.2.2.2.1 ∈ fx_tb := fx_in 1104 (by decide +kernel) rfl
theorem p_MO_make : M_MO_make.1.cls ≠ "java/lang/invoke/MethodHandle" ∧ M_MO_make.1.cls ≠ "java/lang/invoke/VarHandle" ∧ (parseMethodDescriptor M_MO_make.1.desc).map (fun d => d.parameters.length) = some 2 := ⟨by decide, by decide, (by decide +kernel)⟩
theorem v_MO_make : Cond.instanceMethod M_MO_make.1 ∈ fx_tb := fx_in 1103 (by decide +kernel) rfl
theorem s_MO_make : Cond.selects M_MO_make.1.cls M_MO_make.1 M_MO_make.1 ∈ fx_tb := fx_is (y := ⟨"FaxPagesModel", "make", "(II)V"⟩) 86 37 (by decide +kernel)
theorem k_MO_outRest : Cond.code M_MO_outRest.1 M_MO_outRest.2.1 M_MO_outRest.2.2.1 M_MO_outRest.2.2.2.1 ∈ fx_tb := fx_in 1108 (by decide +kernel) rfl
theorem p_MO_outRest : M_MO_outRest.1.cls ≠ "java/lang/invoke/MethodHandle" ∧ M_MO_outRest.1.cls ≠ "java/lang/invoke/VarHandle" ∧ (parseMethodDescriptor M_MO_outRest.1.desc).map (fun d => d.parameters.length) = some 0 := ⟨by decide, by decide, (by decide +kernel)⟩
theorem v_MO_outRest : Cond.instanceMethod M_MO_outRest.1 ∈ fx_tb := fx_in 1107 (by decide +kernel) rfl
theorem s_MO_outRest : Cond.selects M_MO_outRest.1.cls M_MO_outRest.1 M_MO_outRest.1 ∈ fx_tb := fx_is (y := ⟨"FaxPagesModel", "outRest", "()V"⟩) 87 37 (by decide +kernel)
theorem k_MO_outFax : Cond.code M_MO_outFax.1 M_MO_outFax.2.1 M_MO_outFax.2.2.1 M_MO_outFax.2.2.2.1 ∈ fx_tb := fx_in 1112 (by decide +kernel) rfl
theorem p_MO_outFax : M_MO_outFax.1.cls ≠ "java/lang/invoke/MethodHandle" ∧ M_MO_outFax.1.cls ≠ "java/lang/invoke/VarHandle" ∧ (parseMethodDescriptor M_MO_outFax.1.desc).map (fun d => d.parameters.length) = some 2 := ⟨by decide, by decide, (by decide +kernel)⟩
theorem v_MO_outFax : Cond.instanceMethod M_MO_outFax.1 ∈ fx_tb := fx_in 1111 (by decide +kernel) rfl
theorem s_MO_outFax : Cond.selects M_MO_outFax.1.cls M_MO_outFax.1 M_MO_outFax.1 ∈ fx_tb := fx_is (y := ⟨"FaxPagesModel", "outFax", "(II)V"⟩) 88 37 (by decide +kernel)
theorem k_MO_bring : Cond.code M_MO_bring.1 M_MO_bring.2.1 M_MO_bring.2.2.1 M_MO_bring.2.2.2.1 ∈ fx_tb := fx_in 1116 (by decide +kernel) rfl
theorem p_MO_bring : M_MO_bring.1.cls ≠ "java/lang/invoke/MethodHandle" ∧ M_MO_bring.1.cls ≠ "java/lang/invoke/VarHandle" ∧ (parseMethodDescriptor M_MO_bring.1.desc).map (fun d => d.parameters.length) = some 2 := ⟨by decide, by decide, (by decide +kernel)⟩
theorem v_MO_bring : Cond.instanceMethod M_MO_bring.1 ∈ fx_tb := fx_in 1115 (by decide +kernel) rfl
theorem s_MO_bring : Cond.selects M_MO_bring.1.cls M_MO_bring.1 M_MO_bring.1 ∈ fx_tb := fx_is (y := ⟨"FaxPagesModel", "bring", "(IZ)V"⟩) 89 37 (by decide +kernel)
theorem k_MO_outItself : Cond.code M_MO_outItself.1 M_MO_outItself.2.1 M_MO_outItself.2.2.1 M_MO_outItself.2.2.2.1 ∈ fx_tb := fx_in 1120 (by decide +kernel) rfl
theorem p_MO_outItself : M_MO_outItself.1.cls ≠ "java/lang/invoke/MethodHandle" ∧ M_MO_outItself.1.cls ≠ "java/lang/invoke/VarHandle" ∧ (parseMethodDescriptor M_MO_outItself.1.desc).map (fun d => d.parameters.length) = some 0 := ⟨by decide, by decide, (by decide +kernel)⟩
theorem v_MO_outItself : Cond.instanceMethod M_MO_outItself.1 ∈ fx_tb := fx_in 1119 (by decide +kernel) rfl
theorem s_MO_outItself : Cond.selects M_MO_outItself.1.cls M_MO_outItself.1 M_MO_outItself.1 ∈ fx_tb := fx_is (y := ⟨"FaxPagesModel", "outItself", "()V"⟩) 90 37 (by decide +kernel)
theorem k_MO_outRun : Cond.code M_MO_outRun.1 M_MO_outRun.2.1 M_MO_outRun.2.2.1 M_MO_outRun.2.2.2.1 ∈ fx_tb := fx_in 1124 (by decide +kernel) rfl
theorem p_MO_outRun : M_MO_outRun.1.cls ≠ "java/lang/invoke/MethodHandle" ∧ M_MO_outRun.1.cls ≠ "java/lang/invoke/VarHandle" ∧ (parseMethodDescriptor M_MO_outRun.1.desc).map (fun d => d.parameters.length) = some 2 := ⟨by decide, by decide, (by decide +kernel)⟩
theorem v_MO_outRun : Cond.instanceMethod M_MO_outRun.1 ∈ fx_tb := fx_in 1123 (by decide +kernel) rfl
theorem s_MO_outRun : Cond.selects M_MO_outRun.1.cls M_MO_outRun.1 M_MO_outRun.1 ∈ fx_tb := fx_is (y := ⟨"FaxPagesModel", "outRun", "(II)V"⟩) 91 37 (by decide +kernel)
theorem k_MO_outBy : Cond.code M_MO_outBy.1 M_MO_outBy.2.1 M_MO_outBy.2.2.1 M_MO_outBy.2.2.2.1 ∈ fx_tb := fx_in 1128 (by decide +kernel) rfl
theorem p_MO_outBy : M_MO_outBy.1.cls ≠ "java/lang/invoke/MethodHandle" ∧ M_MO_outBy.1.cls ≠ "java/lang/invoke/VarHandle" ∧ (parseMethodDescriptor M_MO_outBy.1.desc).map (fun d => d.parameters.length) = some 0 := ⟨by decide, by decide, (by decide +kernel)⟩
theorem v_MO_outBy : Cond.instanceMethod M_MO_outBy.1 ∈ fx_tb := fx_in 1127 (by decide +kernel) rfl
theorem s_MO_outBy : Cond.selects M_MO_outBy.1.cls M_MO_outBy.1 M_MO_outBy.1 ∈ fx_tb := fx_is (y := ⟨"FaxPagesModel", "outBy", "()V"⟩) 92 37 (by decide +kernel)
theorem k_MO_firstNot : Cond.code M_MO_firstNot.1 M_MO_firstNot.2.1 M_MO_firstNot.2.2.1 M_MO_firstNot.2.2.2.1 ∈ fx_tb := fx_in 1132 (by decide +kernel) rfl
theorem p_MO_firstNot : M_MO_firstNot.1.cls ≠ "java/lang/invoke/MethodHandle" ∧ M_MO_firstNot.1.cls ≠ "java/lang/invoke/VarHandle" ∧ (parseMethodDescriptor M_MO_firstNot.1.desc).map (fun d => d.parameters.length) = some 2 := ⟨by decide, by decide, (by decide +kernel)⟩
theorem v_MO_firstNot : Cond.instanceMethod M_MO_firstNot.1 ∈ fx_tb := fx_in 1131 (by decide +kernel) rfl
theorem s_MO_firstNot : Cond.selects M_MO_firstNot.1.cls M_MO_firstNot.1 M_MO_firstNot.1 ∈ fx_tb := fx_is (y := ⟨"FaxPagesModel", "firstNot", "(II)I"⟩) 93 37 (by decide +kernel)
theorem k_MO_changeAbove : Cond.code M_MO_changeAbove.1 M_MO_changeAbove.2.1 M_MO_changeAbove.2.2.1 M_MO_changeAbove.2.2.2.1 ∈ fx_tb := fx_in 1136 (by decide +kernel) rfl
theorem p_MO_changeAbove : M_MO_changeAbove.1.cls ≠ "java/lang/invoke/MethodHandle" ∧ M_MO_changeAbove.1.cls ≠ "java/lang/invoke/VarHandle" ∧ (parseMethodDescriptor M_MO_changeAbove.1.desc).map (fun d => d.parameters.length) = some 2 := ⟨by decide, by decide, (by decide +kernel)⟩
theorem v_MO_changeAbove : Cond.instanceMethod M_MO_changeAbove.1 ∈ fx_tb := fx_in 1135 (by decide +kernel) rfl
theorem s_MO_changeAbove : Cond.selects M_MO_changeAbove.1.cls M_MO_changeAbove.1 M_MO_changeAbove.1 ∈ fx_tb := fx_is (y := ⟨"FaxPagesModel", "changeAbove", "(II)I"⟩) 94 37 (by decide +kernel)
theorem k_MO_changeBack : Cond.code M_MO_changeBack.1 M_MO_changeBack.2.1 M_MO_changeBack.2.2.1 M_MO_changeBack.2.2.2.1 ∈ fx_tb := fx_in 1140 (by decide +kernel) rfl
theorem p_MO_changeBack : M_MO_changeBack.1.cls ≠ "java/lang/invoke/MethodHandle" ∧ M_MO_changeBack.1.cls ≠ "java/lang/invoke/VarHandle" ∧ (parseMethodDescriptor M_MO_changeBack.1.desc).map (fun d => d.parameters.length) = some 2 := ⟨by decide, by decide, (by decide +kernel)⟩
theorem v_MO_changeBack : Cond.instanceMethod M_MO_changeBack.1 ∈ fx_tb := fx_in 1139 (by decide +kernel) rfl
theorem s_MO_changeBack : Cond.selects M_MO_changeBack.1.cls M_MO_changeBack.1 M_MO_changeBack.1 ∈ fx_tb := fx_is (y := ⟨"FaxPagesModel", "changeBack", "(II)I"⟩) 95 37 (by decide +kernel)
theorem k_MO_near : Cond.code M_MO_near.1 M_MO_near.2.1 M_MO_near.2.2.1 M_MO_near.2.2.2.1 ∈ fx_tb := fx_in 1143 (by decide +kernel) rfl
theorem p_MO_near : M_MO_near.1.cls ≠ "java/lang/invoke/MethodHandle" ∧ M_MO_near.1.cls ≠ "java/lang/invoke/VarHandle" ∧ (parseMethodDescriptor M_MO_near.1.desc).map (fun d => d.parameters.length) = some 1 := ⟨by decide, by decide, (by decide +kernel)⟩
theorem v_MO_near : Cond.static M_MO_near.1 ∈ fx_tb := fx_in 1142 (by decide +kernel) rfl
theorem k_MO_firstAgain : Cond.code M_MO_firstAgain.1 M_MO_firstAgain.2.1 M_MO_firstAgain.2.2.1 M_MO_firstAgain.2.2.2.1 ∈ fx_tb := fx_in 1147 (by decide +kernel) rfl
theorem p_MO_firstAgain : M_MO_firstAgain.1.cls ≠ "java/lang/invoke/MethodHandle" ∧ M_MO_firstAgain.1.cls ≠ "java/lang/invoke/VarHandle" ∧ (parseMethodDescriptor M_MO_firstAgain.1.desc).map (fun d => d.parameters.length) = some 2 := ⟨by decide, by decide, (by decide +kernel)⟩
theorem v_MO_firstAgain : Cond.instanceMethod M_MO_firstAgain.1 ∈ fx_tb := fx_in 1146 (by decide +kernel) rfl
theorem s_MO_firstAgain : Cond.selects M_MO_firstAgain.1.cls M_MO_firstAgain.1 M_MO_firstAgain.1 ∈ fx_tb := fx_is (y := ⟨"FaxPagesModel", "firstAgain", "(II)I"⟩) 96 37 (by decide +kernel)
theorem k_MO_outTags : Cond.code M_MO_outTags.1 M_MO_outTags.2.1 M_MO_outTags.2.2.1 M_MO_outTags.2.2.2.1 ∈ fx_tb := fx_in 1151 (by decide +kernel) rfl
theorem p_MO_outTags : M_MO_outTags.1.cls ≠ "java/lang/invoke/MethodHandle" ∧ M_MO_outTags.1.cls ≠ "java/lang/invoke/VarHandle" ∧ (parseMethodDescriptor M_MO_outTags.1.desc).map (fun d => d.parameters.length) = some 2 := ⟨by decide, by decide, (by decide +kernel)⟩
theorem v_MO_outTags : Cond.instanceMethod M_MO_outTags.1 ∈ fx_tb := fx_in 1150 (by decide +kernel) rfl
theorem s_MO_outTags : Cond.selects M_MO_outTags.1.cls M_MO_outTags.1 M_MO_outTags.1 ∈ fx_tb := fx_is (y := ⟨"FaxPagesModel", "outTags", "(II)V"⟩) 97 37 (by decide +kernel)
theorem k_MO_outTag : Cond.code M_MO_outTag.1 M_MO_outTag.2.1 M_MO_outTag.2.2.1 M_MO_outTag.2.2.2.1 ∈ fx_tb := fx_in 1155 (by decide +kernel) rfl
theorem p_MO_outTag : M_MO_outTag.1.cls ≠ "java/lang/invoke/MethodHandle" ∧ M_MO_outTag.1.cls ≠ "java/lang/invoke/VarHandle" ∧ (parseMethodDescriptor M_MO_outTag.1.desc).map (fun d => d.parameters.length) = some 4 := ⟨by decide, by decide, (by decide +kernel)⟩
theorem v_MO_outTag : Cond.instanceMethod M_MO_outTag.1 ∈ fx_tb := fx_in 1154 (by decide +kernel) rfl
theorem s_MO_outTag : Cond.selects M_MO_outTag.1.cls M_MO_outTag.1 M_MO_outTag.1 ∈ fx_tb := fx_is (y := ⟨"FaxPagesModel", "outTag", "(IZII)V"⟩) 98 37 (by decide +kernel)
theorem k_MO_note : Cond.code M_MO_note.1 M_MO_note.2.1 M_MO_note.2.2.1 M_MO_note.2.2.2.1 ∈ fx_tb := fx_in 1159 (by decide +kernel) rfl
theorem p_MO_note : M_MO_note.1.cls ≠ "java/lang/invoke/MethodHandle" ∧ M_MO_note.1.cls ≠ "java/lang/invoke/VarHandle" ∧ (parseMethodDescriptor M_MO_note.1.desc).map (fun d => d.parameters.length) = some 1 := ⟨by decide, by decide, (by decide +kernel)⟩
theorem v_MO_note : Cond.instanceMethod M_MO_note.1 ∈ fx_tb := fx_in 1158 (by decide +kernel) rfl
theorem s_MO_note : Cond.selects M_MO_note.1.cls M_MO_note.1 M_MO_note.1 ∈ fx_tb := fx_is (y := ⟨"FaxPagesModel", "note", "(I)V"⟩) 99 37 (by decide +kernel)
theorem k_MO_read : Cond.code M_MO_read.1 M_MO_read.2.1 M_MO_read.2.2.1 M_MO_read.2.2.2.1 ∈ fx_tb := fx_in 1163 (by decide +kernel) rfl
theorem p_MO_read : M_MO_read.1.cls ≠ "java/lang/invoke/MethodHandle" ∧ M_MO_read.1.cls ≠ "java/lang/invoke/VarHandle" ∧ (parseMethodDescriptor M_MO_read.1.desc).map (fun d => d.parameters.length) = some 0 := ⟨by decide, by decide, (by decide +kernel)⟩
theorem v_MO_read : Cond.instanceMethod M_MO_read.1 ∈ fx_tb := fx_in 1161 (by decide +kernel) rfl
theorem s_MO_read : Cond.selects M_MO_read.1.cls M_MO_read.1 M_MO_read.1 ∈ fx_tb := fx_in 1162 (by decide +kernel) rfl
theorem k_MO_number : Cond.code M_MO_number.1 M_MO_number.2.1 M_MO_number.2.2.1 M_MO_number.2.2.2.1 ∈ fx_tb := fx_in 1168 (by decide +kernel) rfl
theorem p_MO_number : M_MO_number.1.cls ≠ "java/lang/invoke/MethodHandle" ∧ M_MO_number.1.cls ≠ "java/lang/invoke/VarHandle" ∧ (parseMethodDescriptor M_MO_number.1.desc).map (fun d => d.parameters.length) = some 2 := ⟨by decide, by decide, (by decide +kernel)⟩
theorem v_MO_number : Cond.instanceMethod M_MO_number.1 ∈ fx_tb := fx_in 1167 (by decide +kernel) rfl
theorem s_MO_number : Cond.selects M_MO_number.1.cls M_MO_number.1 M_MO_number.1 ∈ fx_tb := fx_is (y := ⟨"FaxPagesModel", "number", "(JI)J"⟩) 100 37 (by decide +kernel)
theorem k_MO_takeTags : Cond.code M_MO_takeTags.1 M_MO_takeTags.2.1 M_MO_takeTags.2.2.1 M_MO_takeTags.2.2.2.1 ∈ fx_tb := fx_in 1174 (by decide +kernel) rfl
theorem p_MO_takeTags : M_MO_takeTags.1.cls ≠ "java/lang/invoke/MethodHandle" ∧ M_MO_takeTags.1.cls ≠ "java/lang/invoke/VarHandle" ∧ (parseMethodDescriptor M_MO_takeTags.1.desc).map (fun d => d.parameters.length) = some 0 := ⟨by decide, by decide, (by decide +kernel)⟩
theorem v_MO_takeTags : Cond.instanceMethod M_MO_takeTags.1 ∈ fx_tb := fx_in 1173 (by decide +kernel) rfl
theorem s_MO_takeTags : Cond.selects M_MO_takeTags.1.cls M_MO_takeTags.1 M_MO_takeTags.1 ∈ fx_tb := fx_is (y := ⟨"FaxPagesModel", "takeTags", "()Z"⟩) 101 37 (by decide +kernel)
theorem k_MO_known : Cond.code M_MO_known.1 M_MO_known.2.1 M_MO_known.2.2.1 M_MO_known.2.2.2.1 ∈ fx_tb := fx_in 1179 (by decide +kernel) rfl
theorem p_MO_known : M_MO_known.1.cls ≠ "java/lang/invoke/MethodHandle" ∧ M_MO_known.1.cls ≠ "java/lang/invoke/VarHandle" ∧ (parseMethodDescriptor M_MO_known.1.desc).map (fun d => d.parameters.length) = some 1 := ⟨by decide, by decide, (by decide +kernel)⟩
theorem v_MO_known : Cond.static M_MO_known.1 ∈ fx_tb := fx_in 1178 (by decide +kernel) rfl
theorem k_MO_takeTag : Cond.code M_MO_takeTag.1 M_MO_takeTag.2.1 M_MO_takeTag.2.2.1 M_MO_takeTag.2.2.2.1 ∈ fx_tb := fx_in 1183 (by decide +kernel) rfl
theorem p_MO_takeTag : M_MO_takeTag.1.cls ≠ "java/lang/invoke/MethodHandle" ∧ M_MO_takeTag.1.cls ≠ "java/lang/invoke/VarHandle" ∧ (parseMethodDescriptor M_MO_takeTag.1.desc).map (fun d => d.parameters.length) = some 2 := ⟨by decide, by decide, (by decide +kernel)⟩
theorem v_MO_takeTag : Cond.instanceMethod M_MO_takeTag.1 ∈ fx_tb := fx_in 1182 (by decide +kernel) rfl
theorem s_MO_takeTag : Cond.selects M_MO_takeTag.1.cls M_MO_takeTag.1 M_MO_takeTag.1 ∈ fx_tb := fx_is (y := ⟨"FaxPagesModel", "takeTag", "(IJ)Z"⟩) 102 37 (by decide +kernel)
theorem k_MO_fit : Cond.code M_MO_fit.1 M_MO_fit.2.1 M_MO_fit.2.2.1 M_MO_fit.2.2.2.1 ∈ fx_tb := fx_in 1188 (by decide +kernel) rfl
theorem p_MO_fit : M_MO_fit.1.cls ≠ "java/lang/invoke/MethodHandle" ∧ M_MO_fit.1.cls ≠ "java/lang/invoke/VarHandle" ∧ (parseMethodDescriptor M_MO_fit.1.desc).map (fun d => d.parameters.length) = some 0 := ⟨by decide, by decide, (by decide +kernel)⟩
theorem v_MO_fit : Cond.instanceMethod M_MO_fit.1 ∈ fx_tb := fx_in 1187 (by decide +kernel) rfl
theorem s_MO_fit : Cond.selects M_MO_fit.1.cls M_MO_fit.1 M_MO_fit.1 ∈ fx_tb := fx_is (y := ⟨"FaxPagesModel", "fit", "()Z"⟩) 103 37 (by decide +kernel)
theorem k_MO_value : Cond.code M_MO_value.1 M_MO_value.2.1 M_MO_value.2.2.1 M_MO_value.2.2.2.1 ∈ fx_tb := fx_in 1192 (by decide +kernel) rfl
theorem p_MO_value : M_MO_value.1.cls ≠ "java/lang/invoke/MethodHandle" ∧ M_MO_value.1.cls ≠ "java/lang/invoke/VarHandle" ∧ (parseMethodDescriptor M_MO_value.1.desc).map (fun d => d.parameters.length) = some 2 := ⟨by decide, by decide, (by decide +kernel)⟩
theorem v_MO_value : Cond.instanceMethod M_MO_value.1 ∈ fx_tb := fx_in 1191 (by decide +kernel) rfl
theorem s_MO_value : Cond.selects M_MO_value.1.cls M_MO_value.1 M_MO_value.1 ∈ fx_tb := fx_is (y := ⟨"FaxPagesModel", "value", "(II)J"⟩) 104 37 (by decide +kernel)
theorem k_MO_inStrip : Cond.code M_MO_inStrip.1 M_MO_inStrip.2.1 M_MO_inStrip.2.2.1 M_MO_inStrip.2.2.2.1 ∈ fx_tb := fx_in 1196 (by decide +kernel) rfl
theorem p_MO_inStrip : M_MO_inStrip.1.cls ≠ "java/lang/invoke/MethodHandle" ∧ M_MO_inStrip.1.cls ≠ "java/lang/invoke/VarHandle" ∧ (parseMethodDescriptor M_MO_inStrip.1.desc).map (fun d => d.parameters.length) = some 1 := ⟨by decide, by decide, (by decide +kernel)⟩
theorem v_MO_inStrip : Cond.instanceMethod M_MO_inStrip.1 ∈ fx_tb := fx_in 1195 (by decide +kernel) rfl
theorem s_MO_inStrip : Cond.selects M_MO_inStrip.1.cls M_MO_inStrip.1 M_MO_inStrip.1 ∈ fx_tb := fx_is (y := ⟨"FaxPagesModel", "inStrip", "(I)V"⟩) 105 37 (by decide +kernel)
theorem k_MO_inFax : Cond.code M_MO_inFax.1 M_MO_inFax.2.1 M_MO_inFax.2.2.1 M_MO_inFax.2.2.2.1 ∈ fx_tb := fx_in 1200 (by decide +kernel) rfl
theorem p_MO_inFax : M_MO_inFax.1.cls ≠ "java/lang/invoke/MethodHandle" ∧ M_MO_inFax.1.cls ≠ "java/lang/invoke/VarHandle" ∧ (parseMethodDescriptor M_MO_inFax.1.desc).map (fun d => d.parameters.length) = some 2 := ⟨by decide, by decide, (by decide +kernel)⟩
theorem v_MO_inFax : Cond.instanceMethod M_MO_inFax.1 ∈ fx_tb := fx_in 1199 (by decide +kernel) rfl
theorem s_MO_inFax : Cond.selects M_MO_inFax.1.cls M_MO_inFax.1 M_MO_inFax.1 ∈ fx_tb := fx_is (y := ⟨"FaxPagesModel", "inFax", "(II)V"⟩) 106 37 (by decide +kernel)
theorem k_MO_inBits : Cond.code M_MO_inBits.1 M_MO_inBits.2.1 M_MO_inBits.2.2.1 M_MO_inBits.2.2.2.1 ∈ fx_tb := fx_in 1204 (by decide +kernel) rfl
theorem p_MO_inBits : M_MO_inBits.1.cls ≠ "java/lang/invoke/MethodHandle" ∧ M_MO_inBits.1.cls ≠ "java/lang/invoke/VarHandle" ∧ (parseMethodDescriptor M_MO_inBits.1.desc).map (fun d => d.parameters.length) = some 1 := ⟨by decide, by decide, (by decide +kernel)⟩
theorem v_MO_inBits : Cond.instanceMethod M_MO_inBits.1 ∈ fx_tb := fx_in 1203 (by decide +kernel) rfl
theorem s_MO_inBits : Cond.selects M_MO_inBits.1.cls M_MO_inBits.1 M_MO_inBits.1 ∈ fx_tb := fx_is (y := ⟨"FaxPagesModel", "inBits", "(I)I"⟩) 107 37 (by decide +kernel)
theorem k_MO_inBit : Cond.code M_MO_inBit.1 M_MO_inBit.2.1 M_MO_inBit.2.2.1 M_MO_inBit.2.2.2.1 ∈ fx_tb := fx_in 1208 (by decide +kernel) rfl
theorem p_MO_inBit : M_MO_inBit.1.cls ≠ "java/lang/invoke/MethodHandle" ∧ M_MO_inBit.1.cls ≠ "java/lang/invoke/VarHandle" ∧ (parseMethodDescriptor M_MO_inBit.1.desc).map (fun d => d.parameters.length) = some 0 := ⟨by decide, by decide, (by decide +kernel)⟩
theorem v_MO_inBit : Cond.instanceMethod M_MO_inBit.1 ∈ fx_tb := fx_in 1207 (by decide +kernel) rfl
theorem s_MO_inBit : Cond.selects M_MO_inBit.1.cls M_MO_inBit.1 M_MO_inBit.1 ∈ fx_tb := fx_is (y := ⟨"FaxPagesModel", "inBit", "()I"⟩) 108 37 (by decide +kernel)
theorem k_MO_need : Cond.code M_MO_need.1 M_MO_need.2.1 M_MO_need.2.2.1 M_MO_need.2.2.2.1 ∈ fx_tb := fx_in 1212 (by decide +kernel) rfl
theorem p_MO_need : M_MO_need.1.cls ≠ "java/lang/invoke/MethodHandle" ∧ M_MO_need.1.cls ≠ "java/lang/invoke/VarHandle" ∧ (parseMethodDescriptor M_MO_need.1.desc).map (fun d => d.parameters.length) = some 1 := ⟨by decide, by decide, (by decide +kernel)⟩
theorem v_MO_need : Cond.instanceMethod M_MO_need.1 ∈ fx_tb := fx_in 1211 (by decide +kernel) rfl
theorem s_MO_need : Cond.selects M_MO_need.1.cls M_MO_need.1 M_MO_need.1 ∈ fx_tb := fx_is (y := ⟨"FaxPagesModel", "need", "(Z)Z"⟩) 109 37 (by decide +kernel)
theorem k_MO_inItself : Cond.code M_MO_inItself.1 M_MO_inItself.2.1 M_MO_inItself.2.2.1 M_MO_inItself.2.2.2.1 ∈ fx_tb := fx_in 1216 (by decide +kernel) rfl
theorem p_MO_inItself : M_MO_inItself.1.cls ≠ "java/lang/invoke/MethodHandle" ∧ M_MO_inItself.1.cls ≠ "java/lang/invoke/VarHandle" ∧ (parseMethodDescriptor M_MO_inItself.1.desc).map (fun d => d.parameters.length) = some 0 := ⟨by decide, by decide, (by decide +kernel)⟩
theorem v_MO_inItself : Cond.instanceMethod M_MO_inItself.1 ∈ fx_tb := fx_in 1215 (by decide +kernel) rfl
theorem s_MO_inItself : Cond.selects M_MO_inItself.1.cls M_MO_inItself.1 M_MO_inItself.1 ∈ fx_tb := fx_is (y := ⟨"FaxPagesModel", "inItself", "()V"⟩) 110 37 (by decide +kernel)
theorem k_MO_inRun : Cond.code M_MO_inRun.1 M_MO_inRun.2.1 M_MO_inRun.2.2.1 M_MO_inRun.2.2.2.1 ∈ fx_tb := fx_in 1220 (by decide +kernel) rfl
theorem p_MO_inRun : M_MO_inRun.1.cls ≠ "java/lang/invoke/MethodHandle" ∧ M_MO_inRun.1.cls ≠ "java/lang/invoke/VarHandle" ∧ (parseMethodDescriptor M_MO_inRun.1.desc).map (fun d => d.parameters.length) = some 1 := ⟨by decide, by decide, (by decide +kernel)⟩
theorem v_MO_inRun : Cond.instanceMethod M_MO_inRun.1 ∈ fx_tb := fx_in 1219 (by decide +kernel) rfl
theorem s_MO_inRun : Cond.selects M_MO_inRun.1.cls M_MO_inRun.1 M_MO_inRun.1 ∈ fx_tb := fx_is (y := ⟨"FaxPagesModel", "inRun", "(I)I"⟩) 111 37 (by decide +kernel)
theorem k_MO_paint : Cond.code M_MO_paint.1 M_MO_paint.2.1 M_MO_paint.2.2.1 M_MO_paint.2.2.2.1 ∈ fx_tb := fx_in 1224 (by decide +kernel) rfl
theorem p_MO_paint : M_MO_paint.1.cls ≠ "java/lang/invoke/MethodHandle" ∧ M_MO_paint.1.cls ≠ "java/lang/invoke/VarHandle" ∧ (parseMethodDescriptor M_MO_paint.1.desc).map (fun d => d.parameters.length) = some 3 := ⟨by decide, by decide, (by decide +kernel)⟩
theorem v_MO_paint : Cond.instanceMethod M_MO_paint.1 ∈ fx_tb := fx_in 1223 (by decide +kernel) rfl
theorem s_MO_paint : Cond.selects M_MO_paint.1.cls M_MO_paint.1 M_MO_paint.1 ∈ fx_tb := fx_is (y := ⟨"FaxPagesModel", "paint", "(III)I"⟩) 112 37 (by decide +kernel)
theorem k_MO_inBy : Cond.code M_MO_inBy.1 M_MO_inBy.2.1 M_MO_inBy.2.2.1 M_MO_inBy.2.2.2.1 ∈ fx_tb := fx_in 1228 (by decide +kernel) rfl
theorem p_MO_inBy : M_MO_inBy.1.cls ≠ "java/lang/invoke/MethodHandle" ∧ M_MO_inBy.1.cls ≠ "java/lang/invoke/VarHandle" ∧ (parseMethodDescriptor M_MO_inBy.1.desc).map (fun d => d.parameters.length) = some 0 := ⟨by decide, by decide, (by decide +kernel)⟩
theorem v_MO_inBy : Cond.instanceMethod M_MO_inBy.1 ∈ fx_tb := fx_in 1227 (by decide +kernel) rfl
theorem s_MO_inBy : Cond.selects M_MO_inBy.1.cls M_MO_inBy.1 M_MO_inBy.1 ∈ fx_tb := fx_is (y := ⟨"FaxPagesModel", "inBy", "()V"⟩) 113 37 (by decide +kernel)
theorem k_MO_inSign : Cond.code M_MO_inSign.1 M_MO_inSign.2.1 M_MO_inSign.2.2.1 M_MO_inSign.2.2.2.1 ∈ fx_tb := fx_in 1232 (by decide +kernel) rfl
theorem p_MO_inSign : M_MO_inSign.1.cls ≠ "java/lang/invoke/MethodHandle" ∧ M_MO_inSign.1.cls ≠ "java/lang/invoke/VarHandle" ∧ (parseMethodDescriptor M_MO_inSign.1.desc).map (fun d => d.parameters.length) = some 0 := ⟨by decide, by decide, (by decide +kernel)⟩
theorem v_MO_inSign : Cond.instanceMethod M_MO_inSign.1 ∈ fx_tb := fx_in 1231 (by decide +kernel) rfl
theorem s_MO_inSign : Cond.selects M_MO_inSign.1.cls M_MO_inSign.1 M_MO_inSign.1 ∈ fx_tb := fx_is (y := ⟨"FaxPagesModel", "inSign", "()I"⟩) 114 37 (by decide +kernel)
theorem k_MO_inRest : Cond.code M_MO_inRest.1 M_MO_inRest.2.1 M_MO_inRest.2.2.1 M_MO_inRest.2.2.2.1 ∈ fx_tb := fx_in 1236 (by decide +kernel) rfl
theorem p_MO_inRest : M_MO_inRest.1.cls ≠ "java/lang/invoke/MethodHandle" ∧ M_MO_inRest.1.cls ≠ "java/lang/invoke/VarHandle" ∧ (parseMethodDescriptor M_MO_inRest.1.desc).map (fun d => d.parameters.length) = some 0 := ⟨by decide, by decide, (by decide +kernel)⟩
theorem v_MO_inRest : Cond.instanceMethod M_MO_inRest.1 ∈ fx_tb := fx_in 1235 (by decide +kernel) rfl
theorem s_MO_inRest : Cond.selects M_MO_inRest.1.cls M_MO_inRest.1 M_MO_inRest.1 ∈ fx_tb := fx_is (y := ⟨"FaxPagesModel", "inRest", "()V"⟩) 115 37 (by decide +kernel)
theorem k_MO_inByte : Cond.code M_MO_inByte.1 M_MO_inByte.2.1 M_MO_inByte.2.2.1 M_MO_inByte.2.2.2.1 ∈ fx_tb := fx_in 1240 (by decide +kernel) rfl
theorem p_MO_inByte : M_MO_inByte.1.cls ≠ "java/lang/invoke/MethodHandle" ∧ M_MO_inByte.1.cls ≠ "java/lang/invoke/VarHandle" ∧ (parseMethodDescriptor M_MO_inByte.1.desc).map (fun d => d.parameters.length) = some 0 := ⟨by decide, by decide, (by decide +kernel)⟩
theorem v_MO_inByte : Cond.instanceMethod M_MO_inByte.1 ∈ fx_tb := fx_in 1239 (by decide +kernel) rfl
theorem s_MO_inByte : Cond.selects M_MO_inByte.1.cls M_MO_inByte.1 M_MO_inByte.1 ∈ fx_tb := fx_is (y := ⟨"FaxPagesModel", "inByte", "()I"⟩) 116 37 (by decide +kernel)
theorem k_MO_store : Cond.code M_MO_store.1 M_MO_store.2.1 M_MO_store.2.2.1 M_MO_store.2.2.2.1 ∈ fx_tb := fx_in 1244 (by decide +kernel) rfl
theorem p_MO_store : M_MO_store.1.cls ≠ "java/lang/invoke/MethodHandle" ∧ M_MO_store.1.cls ≠ "java/lang/invoke/VarHandle" ∧ (parseMethodDescriptor M_MO_store.1.desc).map (fun d => d.parameters.length) = some 1 := ⟨by decide, by decide, (by decide +kernel)⟩
theorem v_MO_store : Cond.instanceMethod M_MO_store.1 ∈ fx_tb := fx_in 1243 (by decide +kernel) rfl
theorem s_MO_store : Cond.selects M_MO_store.1.cls M_MO_store.1 M_MO_store.1 ∈ fx_tb := fx_is (y := ⟨"FaxPagesModel", "store", "(I)V"⟩) 117 37 (by decide +kernel)
theorem k_MO_inTable : Cond.code M_MO_inTable.1 M_MO_inTable.2.1 M_MO_inTable.2.2.1 M_MO_inTable.2.2.2.1 ∈ fx_tb := fx_in 1248 (by decide +kernel) rfl
theorem p_MO_inTable : M_MO_inTable.1.cls ≠ "java/lang/invoke/MethodHandle" ∧ M_MO_inTable.1.cls ≠ "java/lang/invoke/VarHandle" ∧ (parseMethodDescriptor M_MO_inTable.1.desc).map (fun d => d.parameters.length) = some 1 := ⟨by decide, by decide, (by decide +kernel)⟩
theorem v_MO_inTable : Cond.instanceMethod M_MO_inTable.1 ∈ fx_tb := fx_in 1247 (by decide +kernel) rfl
theorem s_MO_inTable : Cond.selects M_MO_inTable.1.cls M_MO_inTable.1 M_MO_inTable.1 ∈ fx_tb := fx_is (y := ⟨"FaxPagesModel", "inTable", "(I)V"⟩) 118 37 (by decide +kernel)
theorem k_MO_firstOf : Cond.code M_MO_firstOf.1 M_MO_firstOf.2.1 M_MO_firstOf.2.2.1 M_MO_firstOf.2.2.2.1 ∈ fx_tb := fx_in 1252 (by decide +kernel) rfl
theorem p_MO_firstOf : M_MO_firstOf.1.cls ≠ "java/lang/invoke/MethodHandle" ∧ M_MO_firstOf.1.cls ≠ "java/lang/invoke/VarHandle" ∧ (parseMethodDescriptor M_MO_firstOf.1.desc).map (fun d => d.parameters.length) = some 1 := ⟨by decide, by decide, (by decide +kernel)⟩
theorem v_MO_firstOf : Cond.instanceMethod M_MO_firstOf.1 ∈ fx_tb := fx_in 1251 (by decide +kernel) rfl
theorem s_MO_firstOf : Cond.selects M_MO_firstOf.1.cls M_MO_firstOf.1 M_MO_firstOf.1 ∈ fx_tb := fx_is (y := ⟨"FaxPagesModel", "firstOf", "(I)I"⟩) 119 37 (by decide +kernel)
theorem k_MO_storeEntry : Cond.code M_MO_storeEntry.1 M_MO_storeEntry.2.1 M_MO_storeEntry.2.2.1 M_MO_storeEntry.2.2.2.1 ∈ fx_tb := fx_in 1256 (by decide +kernel) rfl
theorem p_MO_storeEntry : M_MO_storeEntry.1.cls ≠ "java/lang/invoke/MethodHandle" ∧ M_MO_storeEntry.1.cls ≠ "java/lang/invoke/VarHandle" ∧ (parseMethodDescriptor M_MO_storeEntry.1.desc).map (fun d => d.parameters.length) = some 2 := ⟨by decide, by decide, (by decide +kernel)⟩
theorem v_MO_storeEntry : Cond.instanceMethod M_MO_storeEntry.1 ∈ fx_tb := fx_in 1255 (by decide +kernel) rfl
theorem s_MO_storeEntry : Cond.selects M_MO_storeEntry.1.cls M_MO_storeEntry.1 M_MO_storeEntry.1 ∈ fx_tb := fx_is (y := ⟨"FaxPagesModel", "storeEntry", "(II)V"⟩) 120 37 (by decide +kernel)
theorem k_MO_inRuns : Cond.code M_MO_inRuns.1 M_MO_inRuns.2.1 M_MO_inRuns.2.2.1 M_MO_inRuns.2.2.2.1 ∈ fx_tb := fx_in 1260 (by decide +kernel) rfl
theorem p_MO_inRuns : M_MO_inRuns.1.cls ≠ "java/lang/invoke/MethodHandle" ∧ M_MO_inRuns.1.cls ≠ "java/lang/invoke/VarHandle" ∧ (parseMethodDescriptor M_MO_inRuns.1.desc).map (fun d => d.parameters.length) = some 1 := ⟨by decide, by decide, (by decide +kernel)⟩
theorem v_MO_inRuns : Cond.instanceMethod M_MO_inRuns.1 ∈ fx_tb := fx_in 1259 (by decide +kernel) rfl
theorem s_MO_inRuns : Cond.selects M_MO_inRuns.1.cls M_MO_inRuns.1 M_MO_inRuns.1 ∈ fx_tb := fx_is (y := ⟨"FaxPagesModel", "inRuns", "(I)V"⟩) 121 37 (by decide +kernel)
theorem k_MO_spread : Cond.code M_MO_spread.1 M_MO_spread.2.1 M_MO_spread.2.2.1 M_MO_spread.2.2.2.1 ∈ fx_tb := fx_in 1264 (by decide +kernel) rfl
theorem p_MO_spread : M_MO_spread.1.cls ≠ "java/lang/invoke/MethodHandle" ∧ M_MO_spread.1.cls ≠ "java/lang/invoke/VarHandle" ∧ (parseMethodDescriptor M_MO_spread.1.desc).map (fun d => d.parameters.length) = some 2 := ⟨by decide, by decide, (by decide +kernel)⟩
theorem v_MO_spread : Cond.instanceMethod M_MO_spread.1 ∈ fx_tb := fx_in 1263 (by decide +kernel) rfl
theorem s_MO_spread : Cond.selects M_MO_spread.1.cls M_MO_spread.1 M_MO_spread.1 ∈ fx_tb := fx_is (y := ⟨"FaxPagesModel", "spread", "(II)V"⟩) 122 37 (by decide +kernel)
theorem k_MO_size : Cond.code M_MO_size.1 M_MO_size.2.1 M_MO_size.2.2.1 M_MO_size.2.2.2.1 ∈ fx_tb := fx_in 1268 (by decide +kernel) rfl
theorem p_MO_size : M_MO_size.1.cls ≠ "java/lang/invoke/MethodHandle" ∧ M_MO_size.1.cls ≠ "java/lang/invoke/VarHandle" ∧ (parseMethodDescriptor M_MO_size.1.desc).map (fun d => d.parameters.length) = some 0 := ⟨by decide, by decide, (by decide +kernel)⟩
theorem v_MO_size : Cond.instanceMethod M_MO_size.1 ∈ fx_tb := fx_in 1266 (by decide +kernel) rfl
theorem s_MO_size : Cond.selects M_MO_size.1.cls M_MO_size.1 M_MO_size.1 ∈ fx_tb := fx_in 1267 (by decide +kernel) rfl
theorem k_MO_at : Cond.code M_MO_at.1 M_MO_at.2.1 M_MO_at.2.2.1 M_MO_at.2.2.2.1 ∈ fx_tb := fx_in 1272 (by decide +kernel) rfl
theorem p_MO_at : M_MO_at.1.cls ≠ "java/lang/invoke/MethodHandle" ∧ M_MO_at.1.cls ≠ "java/lang/invoke/VarHandle" ∧ (parseMethodDescriptor M_MO_at.1.desc).map (fun d => d.parameters.length) = some 1 := ⟨by decide, by decide, (by decide +kernel)⟩
theorem v_MO_at : Cond.instanceMethod M_MO_at.1 ∈ fx_tb := fx_in 1270 (by decide +kernel) rfl
theorem s_MO_at : Cond.selects M_MO_at.1.cls M_MO_at.1 M_MO_at.1 ∈ fx_tb := fx_in 1271 (by decide +kernel) rfl
theorem k_MO_put : Cond.code M_MO_put.1 M_MO_put.2.1 M_MO_put.2.2.1 M_MO_put.2.2.2.1 ∈ fx_tb := fx_in 1276 (by decide +kernel) rfl
theorem p_MO_put : M_MO_put.1.cls ≠ "java/lang/invoke/MethodHandle" ∧ M_MO_put.1.cls ≠ "java/lang/invoke/VarHandle" ∧ (parseMethodDescriptor M_MO_put.1.desc).map (fun d => d.parameters.length) = some 2 := ⟨by decide, by decide, (by decide +kernel)⟩
theorem v_MO_put : Cond.instanceMethod M_MO_put.1 ∈ fx_tb := fx_in 1274 (by decide +kernel) rfl
theorem s_MO_put : Cond.selects M_MO_put.1.cls M_MO_put.1 M_MO_put.1 ∈ fx_tb := fx_in 1275 (by decide +kernel) rfl
theorem k_MO_add : Cond.code M_MO_add.1 M_MO_add.2.1 M_MO_add.2.2.1 M_MO_add.2.2.2.1 ∈ fx_tb := fx_in 1280 (by decide +kernel) rfl
theorem p_MO_add : M_MO_add.1.cls ≠ "java/lang/invoke/MethodHandle" ∧ M_MO_add.1.cls ≠ "java/lang/invoke/VarHandle" ∧ (parseMethodDescriptor M_MO_add.1.desc).map (fun d => d.parameters.length) = some 1 := ⟨by decide, by decide, (by decide +kernel)⟩
theorem v_MO_add : Cond.instanceMethod M_MO_add.1 ∈ fx_tb := fx_in 1278 (by decide +kernel) rfl
theorem s_MO_add : Cond.selects M_MO_add.1.cls M_MO_add.1 M_MO_add.1 ∈ fx_tb := fx_in 1279 (by decide +kernel) rfl
theorem k_MO_cut : Cond.code M_MO_cut.1 M_MO_cut.2.1 M_MO_cut.2.2.1 M_MO_cut.2.2.2.1 ∈ fx_tb := fx_in 1284 (by decide +kernel) rfl
theorem p_MO_cut : M_MO_cut.1.cls ≠ "java/lang/invoke/MethodHandle" ∧ M_MO_cut.1.cls ≠ "java/lang/invoke/VarHandle" ∧ (parseMethodDescriptor M_MO_cut.1.desc).map (fun d => d.parameters.length) = some 1 := ⟨by decide, by decide, (by decide +kernel)⟩
theorem v_MO_cut : Cond.instanceMethod M_MO_cut.1 ∈ fx_tb := fx_in 1282 (by decide +kernel) rfl
theorem s_MO_cut : Cond.selects M_MO_cut.1.cls M_MO_cut.1 M_MO_cut.1 ∈ fx_tb := fx_in 1283 (by decide +kernel) rfl
