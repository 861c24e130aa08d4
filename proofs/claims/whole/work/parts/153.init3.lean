theorem wOI : Cond.instanceMethod objectInit ∈ LW := mw1 28 (by decide +kernel) rfl
theorem wOC : Cond.code objectInit ⟨#[0xb1]⟩ 1 none ∈ LW := mw1 29 (by decide +kernel) rfl
theorem wLX0_1 : Cond.methodLink RX0 3 objectInit ∈ LW := mw1 95 (by decide +kernel) rfl
theorem wA_int : Cond.arrayClass .int ∈ LW := mw1 49 (by decide +kernel) rfl
theorem fiX0_9 : Cond.fieldLink RX0 9 (TX0 0).1 (TX0 0).2.1 (TX0 0).2.2.1 ∈ LW := mw1 96 (by decide +kernel) rfl
theorem fiX0_15 : Cond.fieldLink RX0 15 (TX0 1).1 (TX0 1).2.1 (TX0 1).2.2.1 ∈ LW := mw1 99 (by decide +kernel) rfl
theorem fiX0_18 : Cond.fieldLink RX0 18 (TX0 2).1 (TX0 2).2.1 (TX0 2).2.2.1 ∈ LW := mw1 101 (by decide +kernel) rfl
theorem fiX0_21 : Cond.fieldLink RX0 21 (TX0 3).1 (TX0 3).2.1 (TX0 3).2.2.1 ∈ LW := mw1 105 (by decide +kernel) rfl
theorem fiX0_24 : Cond.fieldLink RX0 24 (TX0 4).1 (TX0 4).2.1 (TX0 4).2.2.1 ∈ LW := mw1 106 (by decide +kernel) rfl
theorem fiX0_27 : Cond.fieldLink RX0 27 (TX0 5).1 (TX0 5).2.1 (TX0 5).2.2.1 ∈ LW := mw1 107 (by decide +kernel) rfl
theorem fiX0_31 : Cond.fieldLink RX0 31 (TX0 6).1 (TX0 6).2.1 (TX0 6).2.2.1 ∈ LW := mw1 113 (by decide +kernel) rfl
theorem fiX0_34 : Cond.fieldLink RX0 34 (TX0 7).1 (TX0 7).2.1 (TX0 7).2.2.1 ∈ LW := mw1 119 (by decide +kernel) rfl
theorem fiX0_37 : Cond.fieldLink RX0 37 (TX0 8).1 (TX0 8).2.1 (TX0 8).2.2.1 ∈ LW := mw1 122 (by decide +kernel) rfl
theorem fiX0_40 : Cond.fieldLink RX0 40 (TX0 9).1 (TX0 9).2.1 (TX0 9).2.2.1 ∈ LW := mw1 126 (by decide +kernel) rfl
theorem fiX0_43 : Cond.fieldLink RX0 43 (TX0 10).1 (TX0 10).2.1 (TX0 10).2.2.1 ∈ LW := mw1 130 (by decide +kernel) rfl
theorem fiX0_46 : Cond.fieldLink RX0 46 (TX0 11).1 (TX0 11).2.1 (TX0 11).2.2.1 ∈ LW := mw1 133 (by decide +kernel) rfl
theorem wA_long : Cond.arrayClass .long ∈ LW := mw1 48 (by decide +kernel) rfl
theorem fiX0_49 : Cond.fieldLink RX0 49 (TX0 12).1 (TX0 12).2.1 (TX0 12).2.2.1 ∈ LW := mw1 135 (by decide +kernel) rfl
theorem fiX0_53 : Cond.fieldLink RX0 53 (TX0 13).1 (TX0 13).2.1 (TX0 13).2.2.1 ∈ LW := mw1 136 (by decide +kernel) rfl
theorem wLX2_1 : Cond.methodLink RX2 3 objectInit ∈ LW := mw2 46 (by decide +kernel) rfl
theorem fiX2_9 : Cond.fieldLink RX2 9 (TX2 0).1 (TX2 0).2.1 (TX2 0).2.2.1 ∈ LW := mw2 47 (by decide +kernel) rfl
theorem fiX2_15 : Cond.fieldLink RX2 15 (TX2 1).1 (TX2 1).2.1 (TX2 1).2.2.1 ∈ LW := mw2 49 (by decide +kernel) rfl
theorem fiX2_18 : Cond.fieldLink RX2 18 (TX2 2).1 (TX2 2).2.1 (TX2 2).2.2.1 ∈ LW := mw2 51 (by decide +kernel) rfl
theorem fiX2_21 : Cond.fieldLink RX2 21 (TX2 3).1 (TX2 3).2.1 (TX2 3).2.2.1 ∈ LW := mw2 53 (by decide +kernel) rfl
theorem fiX2_24 : Cond.fieldLink RX2 24 (TX2 4).1 (TX2 4).2.1 (TX2 4).2.2.1 ∈ LW := mw2 55 (by decide +kernel) rfl
theorem fiX2_27 : Cond.fieldLink RX2 27 (TX2 5).1 (TX2 5).2.1 (TX2 5).2.2.1 ∈ LW := mw2 57 (by decide +kernel) rfl
theorem fiX2_31 : Cond.fieldLink RX2 31 (TX2 6).1 (TX2 6).2.1 (TX2 6).2.2.1 ∈ LW := mw2 59 (by decide +kernel) rfl
theorem fiX2_36 : Cond.fieldLink RX2 36 (TX2 7).1 (TX2 7).2.1 (TX2 7).2.2.1 ∈ LW := mw2 60 (by decide +kernel) rfl
theorem wLX4_1 : Cond.methodLink RX4 3 objectInit ∈ LW := mw1 220 (by decide +kernel) rfl
theorem fiX4_9 : Cond.fieldLink RX4 9 (TX4 0).1 (TX4 0).2.1 (TX4 0).2.2.1 ∈ LW := mw1 221 (by decide +kernel) rfl
theorem fiX4_15 : Cond.fieldLink RX4 15 (TX4 1).1 (TX4 1).2.1 (TX4 1).2.2.1 ∈ LW := mw1 223 (by decide +kernel) rfl
theorem fiX4_18 : Cond.fieldLink RX4 18 (TX4 2).1 (TX4 2).2.1 (TX4 2).2.2.1 ∈ LW := mw1 225 (by decide +kernel) rfl
theorem fiX4_21 : Cond.fieldLink RX4 21 (TX4 3).1 (TX4 3).2.1 (TX4 3).2.2.1 ∈ LW := mw1 227 (by decide +kernel) rfl
theorem fiX4_24 : Cond.fieldLink RX4 24 (TX4 4).1 (TX4 4).2.1 (TX4 4).2.2.1 ∈ LW := mw1 229 (by decide +kernel) rfl
theorem wLX5_1 : Cond.methodLink RX5 5 objectInit ∈ LW := mw1 171 (by decide +kernel) rfl
theorem fiX5_11 : Cond.fieldLink RX5 11 (TX5 0).1 (TX5 0).2.1 (TX5 0).2.2.1 ∈ LW := mw1 172 (by decide +kernel) rfl
theorem fiX5_15 : Cond.fieldLink RX5 15 (TX5 1).1 (TX5 1).2.1 (TX5 1).2.2.1 ∈ LW := mw1 174 (by decide +kernel) rfl
theorem fiX5_19 : Cond.fieldLink RX5 19 (TX5 2).1 (TX5 2).2.1 (TX5 2).2.2.1 ∈ LW := mw1 177 (by decide +kernel) rfl
theorem fiX5_22 : Cond.fieldLink RX5 22 (TX5 3).1 (TX5 3).2.1 (TX5 3).2.2.1 ∈ LW := mw1 179 (by decide +kernel) rfl
theorem fiX5_26 : Cond.fieldLink RX5 26 (TX5 4).1 (TX5 4).2.1 (TX5 4).2.2.1 ∈ LW := mw1 181 (by decide +kernel) rfl
theorem fiX5_29 : Cond.fieldLink RX5 29 (TX5 5).1 (TX5 5).2.1 (TX5 5).2.2.1 ∈ LW := mw1 183 (by decide +kernel) rfl
theorem fiX5_32 : Cond.fieldLink RX5 32 (TX5 6).1 (TX5 6).2.1 (TX5 6).2.2.1 ∈ LW := mw1 185 (by decide +kernel) rfl
theorem fiX5_35 : Cond.fieldLink RX5 35 (TX5 7).1 (TX5 7).2.1 (TX5 7).2.2.1 ∈ LW := mw1 187 (by decide +kernel) rfl
theorem fiX5_38 : Cond.fieldLink RX5 38 (TX5 8).1 (TX5 8).2.1 (TX5 8).2.2.1 ∈ LW := mw1 189 (by decide +kernel) rfl
theorem fiX5_41 : Cond.fieldLink RX5 41 (TX5 9).1 (TX5 9).2.1 (TX5 9).2.2.1 ∈ LW := mw1 191 (by decide +kernel) rfl
theorem wLX7_1 : Cond.methodLink RX7 3 objectInit ∈ LW := mw2 26 (by decide +kernel) rfl
theorem fiX7_9 : Cond.fieldLink RX7 9 (TX7 0).1 (TX7 0).2.1 (TX7 0).2.2.1 ∈ LW := mw2 28 (by decide +kernel) rfl
theorem fiX7_15 : Cond.fieldLink RX7 15 (TX7 1).1 (TX7 1).2.1 (TX7 1).2.2.1 ∈ LW := mw2 29 (by decide +kernel) rfl
theorem fiX7_18 : Cond.fieldLink RX7 18 (TX7 2).1 (TX7 2).2.1 (TX7 2).2.2.1 ∈ LW := mw2 30 (by decide +kernel) rfl
theorem wCX7_21 : Cond.classLink RX7 21 ("[" ++ (FieldType.array .long).toString) ∈ LW := mw2 27 (by decide +kernel) rfl
theorem fiX7_23 : Cond.fieldLink RX7 23 (TX7 3).1 (TX7 3).2.1 (TX7 3).2.2.1 ∈ LW := mw2 31 (by decide +kernel) rfl
theorem wLX8_1 : Cond.methodLink RX8 3 objectInit ∈ LW := mw1 55 (by decide +kernel) rfl
theorem wA_byte : Cond.arrayClass .byte ∈ LW := mw1 89 (by decide +kernel) rfl
theorem fiX8_9 : Cond.fieldLink RX8 9 (TX8 0).1 (TX8 0).2.1 (TX8 0).2.2.1 ∈ LW := mw1 56 (by decide +kernel) rfl
theorem fiX8_15 : Cond.fieldLink RX8 15 (TX8 1).1 (TX8 1).2.1 (TX8 1).2.2.1 ∈ LW := mw1 57 (by decide +kernel) rfl
theorem fiX8_19 : Cond.fieldLink RX8 19 (TX8 2).1 (TX8 2).2.1 (TX8 2).2.2.1 ∈ LW := mw1 59 (by decide +kernel) rfl
theorem fiX8_22 : Cond.fieldLink RX8 22 (TX8 3).1 (TX8 3).2.1 (TX8 3).2.2.1 ∈ LW := mw1 63 (by decide +kernel) rfl
theorem fiX8_25 : Cond.fieldLink RX8 25 (TX8 4).1 (TX8 4).2.1 (TX8 4).2.2.1 ∈ LW := mw1 65 (by decide +kernel) rfl
theorem fiX8_28 : Cond.fieldLink RX8 28 (TX8 5).1 (TX8 5).2.1 (TX8 5).2.2.1 ∈ LW := mw1 66 (by decide +kernel) rfl
theorem fiX8_31 : Cond.fieldLink RX8 31 (TX8 6).1 (TX8 6).2.1 (TX8 6).2.2.1 ∈ LW := mw1 67 (by decide +kernel) rfl
theorem fiX8_34 : Cond.fieldLink RX8 34 (TX8 7).1 (TX8 7).2.1 (TX8 7).2.2.1 ∈ LW := mw1 68 (by decide +kernel) rfl
theorem fiX8_37 : Cond.fieldLink RX8 37 (TX8 8).1 (TX8 8).2.1 (TX8 8).2.2.1 ∈ LW := mw1 69 (by decide +kernel) rfl
theorem wLX9_1 : Cond.methodLink RX9 3 objectInit ∈ LW := mw1 35 (by decide +kernel) rfl
theorem wCX9_11 : Cond.classLink RX9 11 ("[" ++ (FieldType.array .long).toString) ∈ LW := mw1 36 (by decide +kernel) rfl
theorem fiX9_13 : Cond.fieldLink RX9 13 (TX9 0).1 (TX9 0).2.1 (TX9 0).2.2.1 ∈ LW := mw1 38 (by decide +kernel) rfl
theorem fiX9_16 : Cond.fieldLink RX9 16 (TX9 1).1 (TX9 1).2.1 (TX9 1).2.2.1 ∈ LW := mw1 39 (by decide +kernel) rfl
theorem fiX9_20 : Cond.fieldLink RX9 20 (TX9 2).1 (TX9 2).2.1 (TX9 2).2.2.1 ∈ LW := mw1 40 (by decide +kernel) rfl
theorem wLX10_1 : Cond.methodLink RX10 3 objectInit ∈ LW := mw2 7 (by decide +kernel) rfl
theorem fiX10_9 : Cond.fieldLink RX10 9 (TX10 0).1 (TX10 0).2.1 (TX10 0).2.2.1 ∈ LW := mw2 8 (by decide +kernel) rfl
theorem fiX10_15 : Cond.fieldLink RX10 15 (TX10 1).1 (TX10 1).2.1 (TX10 1).2.2.1 ∈ LW := mw2 10 (by decide +kernel) rfl
theorem fiX10_18 : Cond.fieldLink RX10 18 (TX10 2).1 (TX10 2).2.1 (TX10 2).2.2.1 ∈ LW := mw2 12 (by decide +kernel) rfl
theorem wLX12_1 : Cond.methodLink RX12 1 objectInit ∈ LW := mw6 98 (by decide +kernel) rfl
theorem fiX12_7 : Cond.fieldLink RX12 7 (TX12 3).1 (TX12 3).2.1 (TX12 3).2.2.1 ∈ LW := mw6 102 (by decide +kernel) rfl
theorem fiX12_13 : Cond.fieldLink RX12 13 (TX12 4).1 (TX12 4).2.1 (TX12 4).2.2.1 ∈ LW := mw6 103 (by decide +kernel) rfl
theorem fiX12_17 : Cond.fieldLink RX12 17 (TX12 5).1 (TX12 5).2.1 (TX12 5).2.2.1 ∈ LW := mw6 104 (by decide +kernel) rfl
theorem fiX12_20 : Cond.fieldLink RX12 20 (TX12 6).1 (TX12 6).2.1 (TX12 6).2.2.1 ∈ LW := mw6 105 (by decide +kernel) rfl
theorem fiX12_24 : Cond.fieldLink RX12 24 (TX12 7).1 (TX12 7).2.1 (TX12 7).2.2.1 ∈ LW := mw6 106 (by decide +kernel) rfl
theorem fiX12_28 : Cond.fieldLink RX12 28 (TX12 10).1 (TX12 10).2.1 (TX12 10).2.2.1 ∈ LW := mw6 109 (by decide +kernel) rfl
theorem fiX12_32 : Cond.fieldLink RX12 32 (TX12 11).1 (TX12 11).2.1 (TX12 11).2.2.1 ∈ LW := mw6 110 (by decide +kernel) rfl
theorem fiX12_35 : Cond.fieldLink RX12 35 (TX12 19).1 (TX12 19).2.1 (TX12 19).2.2.1 ∈ LW := mw6 118 (by decide +kernel) rfl
theorem fiX12_38 : Cond.fieldLink RX12 38 (TX12 20).1 (TX12 20).2.1 (TX12 20).2.2.1 ∈ LW := mw6 119 (by decide +kernel) rfl
theorem fiX12_41 : Cond.fieldLink RX12 41 (TX12 23).1 (TX12 23).2.1 (TX12 23).2.2.1 ∈ LW := mw6 122 (by decide +kernel) rfl
theorem fiX12_44 : Cond.fieldLink RX12 44 (TX12 24).1 (TX12 24).2.1 (TX12 24).2.2.1 ∈ LW := mw6 123 (by decide +kernel) rfl
theorem fiX12_47 : Cond.fieldLink RX12 47 (TX12 35).1 (TX12 35).2.1 (TX12 35).2.2.1 ∈ LW := mw6 134 (by decide +kernel) rfl
theorem fiX12_50 : Cond.fieldLink RX12 50 (TX12 36).1 (TX12 36).2.1 (TX12 36).2.2.1 ∈ LW := mw6 135 (by decide +kernel) rfl
theorem wLX11_1 : Cond.methodLink RX11 3 objectInit ∈ LW := mw1 27 (by decide +kernel) rfl
theorem wCX11_9 : Cond.classLink RX11 9 RX9 ∈ LW := mw1 30 (by decide +kernel) rfl
theorem wNX9 : Cond.instantiable RX9 3 ∈ LW := mw1 31 (by decide +kernel) rfl
theorem wIX9 : Cond.initialized RX9 ∈ LW := mw1 2 (by decide +kernel) rfl
theorem wMX11_11 : Cond.methodLink RX11 11 yX9_init ∈ LW := mw1 32 (by decide +kernel) rfl
theorem wUX9 : Cond.instanceMethod yX9_init ∈ LW := mw1 33 (by decide +kernel) rfl
theorem wDX9 : Cond.code yX9_init cX9_init 2 none ∈ LW := mw1 34 (by decide +kernel) rfl
theorem fiX11_12 : Cond.fieldLink RX11 12 (TX11 0).1 (TX11 0).2.1 (TX11 0).2.2.1 ∈ LW := mw2 78 (by decide +kernel) rfl
theorem wCX11_16 : Cond.classLink RX11 16 RX8 ∈ LW := mw1 50 (by decide +kernel) rfl
theorem wNX8 : Cond.instantiable RX8 9 ∈ LW := mw1 51 (by decide +kernel) rfl
theorem wIX8 : Cond.initialized RX8 ∈ LW := mw1 3 (by decide +kernel) rfl
theorem wUX8 : Cond.instanceMethod yX8_init ∈ LW := mw1 53 (by decide +kernel) rfl
theorem wDX8 : Cond.code yX8_init cX8_init 1 none ∈ LW := mw1 54 (by decide +kernel) rfl
theorem fiX11_19 : Cond.fieldLink RX11 19 (TX11 1).1 (TX11 1).2.1 (TX11 1).2.2.1 ∈ LW := mw2 79 (by decide +kernel) rfl
theorem wCX11_23 : Cond.classLink RX11 23 RX0 ∈ LW := mw1 90 (by decide +kernel) rfl
theorem wNX0 : Cond.instantiable RX0 14 ∈ LW := mw1 91 (by decide +kernel) rfl
theorem wIX0 : Cond.initialized RX0 ∈ LW := mw1 4 (by decide +kernel) rfl
theorem wUX0 : Cond.instanceMethod yX0_init ∈ LW := mw1 93 (by decide +kernel) rfl
theorem wDX0 : Cond.code yX0_init cX0_init 1 none ∈ LW := mw1 94 (by decide +kernel) rfl
theorem fiX11_26 : Cond.fieldLink RX11 26 (TX11 2).1 (TX11 2).2.1 (TX11 2).2.2.1 ∈ LW := mw2 80 (by decide +kernel) rfl
theorem fiX11_30 : Cond.fieldLink RX11 30 (TX11 3).1 (TX11 3).2.1 (TX11 3).2.2.1 ∈ LW := mw2 81 (by decide +kernel) rfl
theorem wCX11_33 : Cond.classLink RX11 33 RX5 ∈ LW := mw1 166 (by decide +kernel) rfl
theorem wNX5 : Cond.instantiable RX5 10 ∈ LW := mw1 167 (by decide +kernel) rfl
theorem wIX5 : Cond.initialized RX5 ∈ LW := mw1 5 (by decide +kernel) rfl
theorem wUX5 : Cond.instanceMethod yX5_init ∈ LW := mw1 169 (by decide +kernel) rfl
theorem wDX5 : Cond.code yX5_init cX5_init 1 none ∈ LW := mw1 170 (by decide +kernel) rfl
theorem fiX11_36 : Cond.fieldLink RX11 36 (TX11 4).1 (TX11 4).2.1 (TX11 4).2.2.1 ∈ LW := mw2 82 (by decide +kernel) rfl
theorem fiX11_40 : Cond.fieldLink RX11 40 (TX11 5).1 (TX11 5).2.1 (TX11 5).2.2.1 ∈ LW := mw2 83 (by decide +kernel) rfl
theorem fiX11_43 : Cond.fieldLink RX11 43 (TX11 6).1 (TX11 6).2.1 (TX11 6).2.2.1 ∈ LW := mw2 84 (by decide +kernel) rfl
theorem fiX11_47 : Cond.fieldLink RX11 47 (TX11 7).1 (TX11 7).2.1 (TX11 7).2.2.1 ∈ LW := mw2 85 (by decide +kernel) rfl
theorem wCX11_51 : Cond.classLink RX11 51 RX4 ∈ LW := mw1 215 (by decide +kernel) rfl
theorem wNX4 : Cond.instantiable RX4 5 ∈ LW := mw1 216 (by decide +kernel) rfl
theorem wIX4 : Cond.initialized RX4 ∈ LW := mw1 6 (by decide +kernel) rfl
theorem wUX4 : Cond.instanceMethod yX4_init ∈ LW := mw1 218 (by decide +kernel) rfl
theorem wDX4 : Cond.code yX4_init cX4_init 1 none ∈ LW := mw1 219 (by decide +kernel) rfl
theorem fiX11_54 : Cond.fieldLink RX11 54 (TX11 8).1 (TX11 8).2.1 (TX11 8).2.2.1 ∈ LW := mw2 86 (by decide +kernel) rfl
theorem wCX11_58 : Cond.classLink RX11 58 RX10 ∈ LW := mw2 2 (by decide +kernel) rfl
theorem wNX10 : Cond.instantiable RX10 3 ∈ LW := mw2 3 (by decide +kernel) rfl
theorem wIX10 : Cond.initialized RX10 ∈ LW := mw1 7 (by decide +kernel) rfl
theorem wUX10 : Cond.instanceMethod yX10_init ∈ LW := mw2 5 (by decide +kernel) rfl
theorem wDX10 : Cond.code yX10_init cX10_init 1 none ∈ LW := mw2 6 (by decide +kernel) rfl
theorem fiX11_61 : Cond.fieldLink RX11 61 (TX11 9).1 (TX11 9).2.1 (TX11 9).2.2.1 ∈ LW := mw2 87 (by decide +kernel) rfl
theorem wCX11_65 : Cond.classLink RX11 65 RX7 ∈ LW := mw2 21 (by decide +kernel) rfl
theorem wNX7 : Cond.instantiable RX7 4 ∈ LW := mw2 22 (by decide +kernel) rfl
theorem wIX7 : Cond.initialized RX7 ∈ LW := mw1 8 (by decide +kernel) rfl
theorem wUX7 : Cond.instanceMethod yX7_init ∈ LW := mw2 24 (by decide +kernel) rfl
theorem wDX7 : Cond.code yX7_init cX7_init 1 none ∈ LW := mw2 25 (by decide +kernel) rfl
theorem fiX11_68 : Cond.fieldLink RX11 68 (TX11 10).1 (TX11 10).2.1 (TX11 10).2.2.1 ∈ LW := mw2 88 (by decide +kernel) rfl
theorem wCX11_72 : Cond.classLink RX11 72 RX2 ∈ LW := mw2 41 (by decide +kernel) rfl
theorem wNX2 : Cond.instantiable RX2 8 ∈ LW := mw2 42 (by decide +kernel) rfl
theorem wIX2 : Cond.initialized RX2 ∈ LW := mw1 9 (by decide +kernel) rfl
theorem wUX2 : Cond.instanceMethod yX2_init ∈ LW := mw2 44 (by decide +kernel) rfl
theorem wDX2 : Cond.code yX2_init cX2_init 1 none ∈ LW := mw2 45 (by decide +kernel) rfl
theorem fiX11_75 : Cond.fieldLink RX11 75 (TX11 11).1 (TX11 11).2.1 (TX11 11).2.2.1 ∈ LW := mw2 89 (by decide +kernel) rfl
theorem fiX11_79 : Cond.fieldLink RX11 79 (TX11 12).1 (TX11 12).2.1 (TX11 12).2.2.1 ∈ LW := mw2 90 (by decide +kernel) rfl
theorem fiX11_82 : Cond.fieldLink RX11 82 (TX11 13).1 (TX11 13).2.1 (TX11 13).2.2.1 ∈ LW := mw2 91 (by decide +kernel) rfl
theorem fiX11_86 : Cond.fieldLink RX11 86 (TX11 14).1 (TX11 14).2.1 (TX11 14).2.2.1 ∈ LW := mw2 92 (by decide +kernel) rfl
theorem fiX11_90 : Cond.fieldLink RX11 90 (TX11 15).1 (TX11 15).2.1 (TX11 15).2.2.1 ∈ LW := mw2 93 (by decide +kernel) rfl
theorem fiX11_93 : Cond.fieldLink RX11 93 (TX11 16).1 (TX11 16).2.1 (TX11 16).2.2.1 ∈ LW := mw2 94 (by decide +kernel) rfl
theorem fiX11_96 : Cond.fieldLink RX11 96 (TX11 17).1 (TX11 17).2.1 (TX11 17).2.2.1 ∈ LW := mw2 95 (by decide +kernel) rfl
theorem fiX11_99 : Cond.fieldLink RX11 99 (TX11 18).1 (TX11 18).2.1 (TX11 18).2.2.1 ∈ LW := mw2 96 (by decide +kernel) rfl
theorem fiX11_103 : Cond.fieldLink RX11 103 (TX11 19).1 (TX11 19).2.1 (TX11 19).2.2.1 ∈ LW := mw2 97 (by decide +kernel) rfl
theorem kb_64 : (Int8.ofInt (64)).toInt32 = (64 : Int32) := by decide
theorem ks_240 : (Int16.ofInt (240)).toInt32 = (240 : Int32) := by decide
theorem ks_1780 : (Int16.ofInt (1780)).toInt32 = (1780 : Int32) := by decide
theorem VI.cast {K : IK} {cc : ByteArray} {own : String} {g : IG} {Post : va_W → Prop} {X X' T : va_W} {kc ks : Nat} {pc : Nat} {lv : List (Nat × Value)} {st : List Value} (h : X = X') (k : VI K cc own g Post X' T kc ks pc lv st) : VI K cc own g Post X T kc ks pc lv st := by rw [h]; exact k
theorem dn0_0 : decode cX0_init 0 = .ok (.aload_n 0, 1) := by decide +kernel
theorem dn0_1 : decode cX0_init 1 = .ok (.invokespecial 3, 3) := by decide +kernel
theorem dn0_4 : decode cX0_init 4 = .ok (.aload_n 0, 1) := by decide +kernel
theorem dn0_5 : decode cX0_init 5 = .ok (.bipush 20, 2) := by decide +kernel
theorem dn0_7 : decode cX0_init 7 = .ok (.newarray .int, 2) := by decide +kernel
theorem dn0_9 : decode cX0_init 9 = .ok (.putfield 9, 3) := by decide +kernel
theorem dn0_12 : decode cX0_init 12 = .ok (.aload_n 0, 1) := by decide +kernel
theorem dn0_13 : decode cX0_init 13 = .ok (.bipush 20, 2) := by decide +kernel
theorem dn0_15 : decode cX0_init 15 = .ok (.newarray .int, 2) := by decide +kernel
theorem dn0_17 : decode cX0_init 17 = .ok (.putfield 15, 3) := by decide +kernel
theorem dn0_20 : decode cX0_init 20 = .ok (.aload_n 0, 1) := by decide +kernel
theorem dn0_21 : decode cX0_init 21 = .ok (.iconst 4, 1) := by decide +kernel
theorem dn0_22 : decode cX0_init 22 = .ok (.newarray .int, 2) := by decide +kernel
theorem dn0_24 : decode cX0_init 24 = .ok (.putfield 18, 3) := by decide +kernel
theorem dn0_27 : decode cX0_init 27 = .ok (.aload_n 0, 1) := by decide +kernel
theorem dn0_28 : decode cX0_init 28 = .ok (.iconst 5, 1) := by decide +kernel
theorem dn0_29 : decode cX0_init 29 = .ok (.newarray .int, 2) := by decide +kernel
theorem dn0_31 : decode cX0_init 31 = .ok (.putfield 21, 3) := by decide +kernel
theorem dn0_34 : decode cX0_init 34 = .ok (.aload_n 0, 1) := by decide +kernel
theorem dn0_35 : decode cX0_init 35 = .ok (.iconst 5, 1) := by decide +kernel
theorem dn0_36 : decode cX0_init 36 = .ok (.newarray .int, 2) := by decide +kernel
theorem dn0_38 : decode cX0_init 38 = .ok (.putfield 24, 3) := by decide +kernel
theorem dn0_41 : decode cX0_init 41 = .ok (.aload_n 0, 1) := by decide +kernel
theorem dn0_42 : decode cX0_init 42 = .ok (.iconst 0, 1) := by decide +kernel
theorem dn0_43 : decode cX0_init 43 = .ok (.putfield 27, 3) := by decide +kernel
theorem dn0_46 : decode cX0_init 46 = .ok (.aload_n 0, 1) := by decide +kernel
theorem dn0_47 : decode cX0_init 47 = .ok (.iconst 0, 1) := by decide +kernel
theorem dn0_48 : decode cX0_init 48 = .ok (.putfield 31, 3) := by decide +kernel
theorem dn0_51 : decode cX0_init 51 = .ok (.aload_n 0, 1) := by decide +kernel
theorem dn0_52 : decode cX0_init 52 = .ok (.iconst 0, 1) := by decide +kernel
theorem dn0_53 : decode cX0_init 53 = .ok (.putfield 34, 3) := by decide +kernel
theorem dn0_56 : decode cX0_init 56 = .ok (.aload_n 0, 1) := by decide +kernel
theorem dn0_57 : decode cX0_init 57 = .ok (.iconst 0, 1) := by decide +kernel
theorem dn0_58 : decode cX0_init 58 = .ok (.putfield 37, 3) := by decide +kernel
theorem dn0_61 : decode cX0_init 61 = .ok (.aload_n 0, 1) := by decide +kernel
theorem dn0_62 : decode cX0_init 62 = .ok (.iconst 0, 1) := by decide +kernel
theorem dn0_63 : decode cX0_init 63 = .ok (.putfield 40, 3) := by decide +kernel
theorem dn0_66 : decode cX0_init 66 = .ok (.aload_n 0, 1) := by decide +kernel
theorem dn0_67 : decode cX0_init 67 = .ok (.iconst 0, 1) := by decide +kernel
theorem dn0_68 : decode cX0_init 68 = .ok (.putfield 43, 3) := by decide +kernel
theorem dn0_71 : decode cX0_init 71 = .ok (.aload_n 0, 1) := by decide +kernel
theorem dn0_72 : decode cX0_init 72 = .ok (.iconst 0, 1) := by decide +kernel
theorem dn0_73 : decode cX0_init 73 = .ok (.putfield 46, 3) := by decide +kernel
theorem dn0_76 : decode cX0_init 76 = .ok (.aload_n 0, 1) := by decide +kernel
theorem dn0_77 : decode cX0_init 77 = .ok (.bipush 20, 2) := by decide +kernel
theorem dn0_79 : decode cX0_init 79 = .ok (.newarray .long, 2) := by decide +kernel
theorem dn0_81 : decode cX0_init 81 = .ok (.putfield 49, 3) := by decide +kernel
theorem dn0_84 : decode cX0_init 84 = .ok (.aload_n 0, 1) := by decide +kernel
theorem dn0_85 : decode cX0_init 85 = .ok (.bipush 20, 2) := by decide +kernel
theorem dn0_87 : decode cX0_init 87 = .ok (.newarray .int, 2) := by decide +kernel
theorem dn0_89 : decode cX0_init 89 = .ok (.putfield 53, 3) := by decide +kernel
theorem dn0_92 : decode cX0_init 92 = .ok (.return_, 1) := by decide +kernel
def Post0 (g : IG) (h0 : Nat) (ws : va_W) : Prop := ∃ (q1 : Nat) (q2 : Nat) (q3 : Nat) (q4 : Nat) (q5 : Nat) (q6 : Nat) (q7 : Nat), ws = [(h0, .inr (0, [.ref q1, .ref q2, .ref q3, .ref q4, .ref q5, .int (0 : Int32), .int (0 : Int32), .int (0 : Int32), .int (0 : Int32), .int (0 : Int32), .int (0 : Int32), .int (0 : Int32), .ref q6, .ref q7])), (q1, .inl (g.2 0, 20, .inl (fun _ => 0))), (q2, .inl (g.2 0, 20, .inl (fun _ => 0))), (q3, .inl (g.2 0, 4, .inl (fun _ => 0))), (q4, .inl (g.2 0, 5, .inl (fun _ => 0))), (q5, .inl (g.2 0, 5, .inl (fun _ => 0))), (q6, .inl (g.2 1, 20, .inr (.inl (fun _ => 0)))), (q7, .inl (g.2 0, 20, .inl (fun _ => 0)))] ++ []
theorem post0_head {g : IG} {h0 : Nat} {ws : va_W} (h : Post0 g h0 ws) : ∃ vs, (h0, (.inr (0, vs) : va_E)) ∈ ws := by
  obtain ⟨q1, q2, q3, q4, q5, q6, q7, rfl⟩ := h
  exact ⟨_, List.mem_cons_self⟩
set_option maxRecDepth 100000 in
set_option maxHeartbeats 4000000 in
theorem mi0 : MI yX0_init cX0_init 1 1 7 94 0 [.null, .null, .null, .null, .null, .int 0, .int 0, .int 0, .int 0, .int 0, .int 0, .int 0, .null, .null] Post0 := MI.of (by decide) rfl (by decide) (by decide) (fun g h0 => by
  show VI _ _ RX0 g _ _ _ 0 0 0 _ _
  refine i_aload_n dn0_0 0 rfl rfl ?_
  refine i_obj dn0_1 wLX0_1 wOI wOC (by decide) (Nat.le_of_ble_eq_true rfl) ?_
  refine i_aload_n dn0_4 0 rfl rfl ?_
  refine i_bipush dn0_5 kb_20 ?_
  refine i_newa (ty := .int) (i0 := 0) (N' := 20) (a0 := (20, .inl (fun _ => 0))) dn0_7 wA_int rfl rfl (fun _ _ _ h1 h2 => Option.some.inj (h1.symm.trans h2)) (fun _ => rfl) (by decide) rfl (by decide) (by decide) (by decide) fun q1 => ?_
  refine i_put (i := 0) (j := 0) (X' := [(h0, .inr (0, [.ref q1, .null, .null, .null, .null, .int 0, .int 0, .int 0, .int 0, .int 0, .int 0, .int 0, .null, .null])), (q1, .inl (g.2 0, 20, .inl (fun _ => 0)))]) dn0_9 cf0 (by decide) fiX0_9 rfl rfl (by decide) rfl rfl (show 0 < 14 by decide) rfl ?_
  refine i_aload_n dn0_12 0 rfl rfl ?_
  refine i_bipush dn0_13 kb_20 ?_
  refine i_newa (ty := .int) (i0 := 0) (N' := 20) (a0 := (20, .inl (fun _ => 0))) dn0_15 wA_int rfl rfl (fun _ _ _ h1 h2 => Option.some.inj (h1.symm.trans h2)) (fun _ => rfl) (by decide) rfl (by decide) (by decide) (by decide) fun q2 => ?_
  refine i_put (i := 0) (j := 1) (X' := [(h0, .inr (0, [.ref q1, .ref q2, .null, .null, .null, .int 0, .int 0, .int 0, .int 0, .int 0, .int 0, .int 0, .null, .null])), (q1, .inl (g.2 0, 20, .inl (fun _ => 0))), (q2, .inl (g.2 0, 20, .inl (fun _ => 0)))]) dn0_17 cf0 (by decide) fiX0_15 rfl rfl (by decide) rfl rfl (show 1 < 14 by decide) rfl ?_
  refine i_aload_n dn0_20 0 rfl rfl ?_
  refine i_iconst dn0_21 ki_4 ?_
  refine i_newa (ty := .int) (i0 := 0) (N' := 4) (a0 := (4, .inl (fun _ => 0))) dn0_22 wA_int rfl rfl (fun _ _ _ h1 h2 => Option.some.inj (h1.symm.trans h2)) (fun _ => rfl) (by decide) rfl (by decide) (by decide) (by decide) fun q3 => ?_
  refine i_put (i := 0) (j := 2) (X' := [(h0, .inr (0, [.ref q1, .ref q2, .ref q3, .null, .null, .int 0, .int 0, .int 0, .int 0, .int 0, .int 0, .int 0, .null, .null])), (q1, .inl (g.2 0, 20, .inl (fun _ => 0))), (q2, .inl (g.2 0, 20, .inl (fun _ => 0))), (q3, .inl (g.2 0, 4, .inl (fun _ => 0)))]) dn0_24 cf0 (by decide) fiX0_18 rfl rfl (by decide) rfl rfl (show 2 < 14 by decide) rfl ?_
  refine i_aload_n dn0_27 0 rfl rfl ?_
  refine i_iconst dn0_28 ki_5 ?_
  refine i_newa (ty := .int) (i0 := 0) (N' := 5) (a0 := (5, .inl (fun _ => 0))) dn0_29 wA_int rfl rfl (fun _ _ _ h1 h2 => Option.some.inj (h1.symm.trans h2)) (fun _ => rfl) (by decide) rfl (by decide) (by decide) (by decide) fun q4 => ?_
  refine i_put (i := 0) (j := 3) (X' := [(h0, .inr (0, [.ref q1, .ref q2, .ref q3, .ref q4, .null, .int 0, .int 0, .int 0, .int 0, .int 0, .int 0, .int 0, .null, .null])), (q1, .inl (g.2 0, 20, .inl (fun _ => 0))), (q2, .inl (g.2 0, 20, .inl (fun _ => 0))), (q3, .inl (g.2 0, 4, .inl (fun _ => 0))), (q4, .inl (g.2 0, 5, .inl (fun _ => 0)))]) dn0_31 cf0 (by decide) fiX0_21 rfl rfl (by decide) rfl rfl (show 3 < 14 by decide) rfl ?_
  refine i_aload_n dn0_34 0 rfl rfl ?_
  refine i_iconst dn0_35 ki_5 ?_
  refine i_newa (ty := .int) (i0 := 0) (N' := 5) (a0 := (5, .inl (fun _ => 0))) dn0_36 wA_int rfl rfl (fun _ _ _ h1 h2 => Option.some.inj (h1.symm.trans h2)) (fun _ => rfl) (by decide) rfl (by decide) (by decide) (by decide) fun q5 => ?_
  refine i_put (i := 0) (j := 4) (X' := [(h0, .inr (0, [.ref q1, .ref q2, .ref q3, .ref q4, .ref q5, .int 0, .int 0, .int 0, .int 0, .int 0, .int 0, .int 0, .null, .null])), (q1, .inl (g.2 0, 20, .inl (fun _ => 0))), (q2, .inl (g.2 0, 20, .inl (fun _ => 0))), (q3, .inl (g.2 0, 4, .inl (fun _ => 0))), (q4, .inl (g.2 0, 5, .inl (fun _ => 0))), (q5, .inl (g.2 0, 5, .inl (fun _ => 0)))]) dn0_38 cf0 (by decide) fiX0_24 rfl rfl (by decide) rfl rfl (show 4 < 14 by decide) rfl ?_
  refine i_aload_n dn0_41 0 rfl rfl ?_
  refine i_iconst dn0_42 ki_0 ?_
  refine i_put (i := 0) (j := 5) (X' := [(h0, .inr (0, [.ref q1, .ref q2, .ref q3, .ref q4, .ref q5, .int (0 : Int32), .int 0, .int 0, .int 0, .int 0, .int 0, .int 0, .null, .null])), (q1, .inl (g.2 0, 20, .inl (fun _ => 0))), (q2, .inl (g.2 0, 20, .inl (fun _ => 0))), (q3, .inl (g.2 0, 4, .inl (fun _ => 0))), (q4, .inl (g.2 0, 5, .inl (fun _ => 0))), (q5, .inl (g.2 0, 5, .inl (fun _ => 0)))]) dn0_43 cf0 (by decide) fiX0_27 rfl rfl (by decide) rfl rfl (show 5 < 14 by decide) rfl ?_
  refine i_aload_n dn0_46 0 rfl rfl ?_
  refine i_iconst dn0_47 ki_0 ?_
  refine i_put (i := 0) (j := 6) (X' := [(h0, .inr (0, [.ref q1, .ref q2, .ref q3, .ref q4, .ref q5, .int (0 : Int32), .int (0 : Int32), .int 0, .int 0, .int 0, .int 0, .int 0, .null, .null])), (q1, .inl (g.2 0, 20, .inl (fun _ => 0))), (q2, .inl (g.2 0, 20, .inl (fun _ => 0))), (q3, .inl (g.2 0, 4, .inl (fun _ => 0))), (q4, .inl (g.2 0, 5, .inl (fun _ => 0))), (q5, .inl (g.2 0, 5, .inl (fun _ => 0)))]) dn0_48 cf0 (by decide) fiX0_31 rfl rfl (by decide) rfl rfl (show 6 < 14 by decide) rfl ?_
  refine i_aload_n dn0_51 0 rfl rfl ?_
  refine i_iconst dn0_52 ki_0 ?_
  refine i_put (i := 0) (j := 7) (X' := [(h0, .inr (0, [.ref q1, .ref q2, .ref q3, .ref q4, .ref q5, .int (0 : Int32), .int (0 : Int32), .int (0 : Int32), .int 0, .int 0, .int 0, .int 0, .null, .null])), (q1, .inl (g.2 0, 20, .inl (fun _ => 0))), (q2, .inl (g.2 0, 20, .inl (fun _ => 0))), (q3, .inl (g.2 0, 4, .inl (fun _ => 0))), (q4, .inl (g.2 0, 5, .inl (fun _ => 0))), (q5, .inl (g.2 0, 5, .inl (fun _ => 0)))]) dn0_53 cf0 (by decide) fiX0_34 rfl rfl (by decide) rfl rfl (show 7 < 14 by decide) rfl ?_
  refine i_aload_n dn0_56 0 rfl rfl ?_
  refine i_iconst dn0_57 ki_0 ?_
  refine i_put (i := 0) (j := 8) (X' := [(h0, .inr (0, [.ref q1, .ref q2, .ref q3, .ref q4, .ref q5, .int (0 : Int32), .int (0 : Int32), .int (0 : Int32), .int (0 : Int32), .int 0, .int 0, .int 0, .null, .null])), (q1, .inl (g.2 0, 20, .inl (fun _ => 0))), (q2, .inl (g.2 0, 20, .inl (fun _ => 0))), (q3, .inl (g.2 0, 4, .inl (fun _ => 0))), (q4, .inl (g.2 0, 5, .inl (fun _ => 0))), (q5, .inl (g.2 0, 5, .inl (fun _ => 0)))]) dn0_58 cf0 (by decide) fiX0_37 rfl rfl (by decide) rfl rfl (show 8 < 14 by decide) rfl ?_
  refine i_aload_n dn0_61 0 rfl rfl ?_
  refine i_iconst dn0_62 ki_0 ?_
  refine i_put (i := 0) (j := 9) (X' := [(h0, .inr (0, [.ref q1, .ref q2, .ref q3, .ref q4, .ref q5, .int (0 : Int32), .int (0 : Int32), .int (0 : Int32), .int (0 : Int32), .int (0 : Int32), .int 0, .int 0, .null, .null])), (q1, .inl (g.2 0, 20, .inl (fun _ => 0))), (q2, .inl (g.2 0, 20, .inl (fun _ => 0))), (q3, .inl (g.2 0, 4, .inl (fun _ => 0))), (q4, .inl (g.2 0, 5, .inl (fun _ => 0))), (q5, .inl (g.2 0, 5, .inl (fun _ => 0)))]) dn0_63 cf0 (by decide) fiX0_40 rfl rfl (by decide) rfl rfl (show 9 < 14 by decide) rfl ?_
  refine i_aload_n dn0_66 0 rfl rfl ?_
  refine i_iconst dn0_67 ki_0 ?_
  refine i_put (i := 0) (j := 10) (X' := [(h0, .inr (0, [.ref q1, .ref q2, .ref q3, .ref q4, .ref q5, .int (0 : Int32), .int (0 : Int32), .int (0 : Int32), .int (0 : Int32), .int (0 : Int32), .int (0 : Int32), .int 0, .null, .null])), (q1, .inl (g.2 0, 20, .inl (fun _ => 0))), (q2, .inl (g.2 0, 20, .inl (fun _ => 0))), (q3, .inl (g.2 0, 4, .inl (fun _ => 0))), (q4, .inl (g.2 0, 5, .inl (fun _ => 0))), (q5, .inl (g.2 0, 5, .inl (fun _ => 0)))]) dn0_68 cf0 (by decide) fiX0_43 rfl rfl (by decide) rfl rfl (show 10 < 14 by decide) rfl ?_
  refine i_aload_n dn0_71 0 rfl rfl ?_
  refine i_iconst dn0_72 ki_0 ?_
  refine i_put (i := 0) (j := 11) (X' := [(h0, .inr (0, [.ref q1, .ref q2, .ref q3, .ref q4, .ref q5, .int (0 : Int32), .int (0 : Int32), .int (0 : Int32), .int (0 : Int32), .int (0 : Int32), .int (0 : Int32), .int (0 : Int32), .null, .null])), (q1, .inl (g.2 0, 20, .inl (fun _ => 0))), (q2, .inl (g.2 0, 20, .inl (fun _ => 0))), (q3, .inl (g.2 0, 4, .inl (fun _ => 0))), (q4, .inl (g.2 0, 5, .inl (fun _ => 0))), (q5, .inl (g.2 0, 5, .inl (fun _ => 0)))]) dn0_73 cf0 (by decide) fiX0_46 rfl rfl (by decide) rfl rfl (show 11 < 14 by decide) rfl ?_
  refine i_aload_n dn0_76 0 rfl rfl ?_
  refine i_bipush dn0_77 kb_20 ?_
  refine i_newa (ty := .long) (i0 := 1) (N' := 20) (a0 := (20, .inr (.inl (fun _ => 0)))) dn0_79 wA_long rfl rfl (fun _ _ _ h1 h2 => Option.some.inj (h1.symm.trans h2)) (fun _ => rfl) (by decide) rfl (by decide) (by decide) (by decide) fun q6 => ?_
  refine i_put (i := 0) (j := 12) (X' := [(h0, .inr (0, [.ref q1, .ref q2, .ref q3, .ref q4, .ref q5, .int (0 : Int32), .int (0 : Int32), .int (0 : Int32), .int (0 : Int32), .int (0 : Int32), .int (0 : Int32), .int (0 : Int32), .ref q6, .null])), (q1, .inl (g.2 0, 20, .inl (fun _ => 0))), (q2, .inl (g.2 0, 20, .inl (fun _ => 0))), (q3, .inl (g.2 0, 4, .inl (fun _ => 0))), (q4, .inl (g.2 0, 5, .inl (fun _ => 0))), (q5, .inl (g.2 0, 5, .inl (fun _ => 0))), (q6, .inl (g.2 1, 20, .inr (.inl (fun _ => 0))))]) dn0_81 cf0 (by decide) fiX0_49 rfl rfl (by decide) rfl rfl (show 12 < 14 by decide) rfl ?_
  refine i_aload_n dn0_84 0 rfl rfl ?_
  refine i_bipush dn0_85 kb_20 ?_
  refine i_newa (ty := .int) (i0 := 0) (N' := 20) (a0 := (20, .inl (fun _ => 0))) dn0_87 wA_int rfl rfl (fun _ _ _ h1 h2 => Option.some.inj (h1.symm.trans h2)) (fun _ => rfl) (by decide) rfl (by decide) (by decide) (by decide) fun q7 => ?_
  refine i_put (i := 0) (j := 13) (X' := [(h0, .inr (0, [.ref q1, .ref q2, .ref q3, .ref q4, .ref q5, .int (0 : Int32), .int (0 : Int32), .int (0 : Int32), .int (0 : Int32), .int (0 : Int32), .int (0 : Int32), .int (0 : Int32), .ref q6, .ref q7])), (q1, .inl (g.2 0, 20, .inl (fun _ => 0))), (q2, .inl (g.2 0, 20, .inl (fun _ => 0))), (q3, .inl (g.2 0, 4, .inl (fun _ => 0))), (q4, .inl (g.2 0, 5, .inl (fun _ => 0))), (q5, .inl (g.2 0, 5, .inl (fun _ => 0))), (q6, .inl (g.2 1, 20, .inr (.inl (fun _ => 0)))), (q7, .inl (g.2 0, 20, .inl (fun _ => 0)))]) dn0_89 cf0 (by decide) fiX0_53 rfl rfl (by decide) rfl rfl (show 13 < 14 by decide) rfl ?_
  exact i_ret dn0_92 (by decide) (by decide) ⟨q1, q2, q3, q4, q5, q6, q7, rfl⟩)
theorem dn2_0 : decode cX2_init 0 = .ok (.aload_n 0, 1) := by decide +kernel
theorem dn2_1 : decode cX2_init 1 = .ok (.invokespecial 3, 3) := by decide +kernel
theorem dn2_4 : decode cX2_init 4 = .ok (.aload_n 0, 1) := by decide +kernel
theorem dn2_5 : decode cX2_init 5 = .ok (.iconst 0, 1) := by decide +kernel
theorem dn2_6 : decode cX2_init 6 = .ok (.putfield 9, 3) := by decide +kernel
theorem dn2_9 : decode cX2_init 9 = .ok (.aload_n 0, 1) := by decide +kernel
theorem dn2_10 : decode cX2_init 10 = .ok (.iconst 0, 1) := by decide +kernel
theorem dn2_11 : decode cX2_init 11 = .ok (.putfield 15, 3) := by decide +kernel
theorem dn2_14 : decode cX2_init 14 = .ok (.aload_n 0, 1) := by decide +kernel
theorem dn2_15 : decode cX2_init 15 = .ok (.iconst 0, 1) := by decide +kernel
theorem dn2_16 : decode cX2_init 16 = .ok (.putfield 18, 3) := by decide +kernel
theorem dn2_19 : decode cX2_init 19 = .ok (.aload_n 0, 1) := by decide +kernel
theorem dn2_20 : decode cX2_init 20 = .ok (.iconst 0, 1) := by decide +kernel
theorem dn2_21 : decode cX2_init 21 = .ok (.putfield 21, 3) := by decide +kernel
theorem dn2_24 : decode cX2_init 24 = .ok (.aload_n 0, 1) := by decide +kernel
theorem dn2_25 : decode cX2_init 25 = .ok (.iconst 0, 1) := by decide +kernel
theorem dn2_26 : decode cX2_init 26 = .ok (.putfield 24, 3) := by decide +kernel
theorem dn2_29 : decode cX2_init 29 = .ok (.aload_n 0, 1) := by decide +kernel
theorem dn2_30 : decode cX2_init 30 = .ok (.iconst 0, 1) := by decide +kernel
theorem dn2_31 : decode cX2_init 31 = .ok (.putfield 27, 3) := by decide +kernel
theorem dn2_34 : decode cX2_init 34 = .ok (.aload_n 0, 1) := by decide +kernel
theorem dn2_35 : decode cX2_init 35 = .ok (.iconst 0, 1) := by decide +kernel
theorem dn2_36 : decode cX2_init 36 = .ok (.putfield 31, 3) := by decide +kernel
theorem dn2_39 : decode cX2_init 39 = .ok (.aload_n 0, 1) := by decide +kernel
theorem dn2_40 : decode cX2_init 40 = .ok (.bipush 60, 2) := by decide +kernel
theorem dn2_42 : decode cX2_init 42 = .ok (.newarray .int, 2) := by decide +kernel
theorem dn2_44 : decode cX2_init 44 = .ok (.putfield 36, 3) := by decide +kernel
theorem dn2_47 : decode cX2_init 47 = .ok (.return_, 1) := by decide +kernel
def Post2 (g : IG) (h0 : Nat) (ws : va_W) : Prop := ∃ (q1 : Nat), ws = [(h0, .inr (1, [.int (0 : Int32), .int (0 : Int32), .int (0 : Int32), .int (0 : Int32), .int (0 : Int32), .int (0 : Int32), .int (0 : Int32), .ref q1])), (q1, .inl (g.2 0, 60, .inl (fun _ => 0)))] ++ []
set_option maxRecDepth 100000 in
set_option maxHeartbeats 4000000 in
theorem mi2 : MI yX2_init cX2_init 1 1 1 60 1 [.int 0, .int 0, .int 0, .int 0, .int 0, .int 0, .int 0, .null] Post2 := MI.of (by decide) rfl (by decide) (by decide) (fun g h0 => by
  show VI _ _ RX2 g _ _ _ 0 0 0 _ _
  refine i_aload_n dn2_0 0 rfl rfl ?_
  refine i_obj dn2_1 wLX2_1 wOI wOC (by decide) (Nat.le_of_ble_eq_true rfl) ?_
  refine i_aload_n dn2_4 0 rfl rfl ?_
  refine i_iconst dn2_5 ki_0 ?_
  refine i_put (i := 0) (j := 0) (X' := [(h0, .inr (1, [.int (0 : Int32), .int 0, .int 0, .int 0, .int 0, .int 0, .int 0, .null]))]) dn2_6 cf1 (by decide) fiX2_9 rfl rfl (by decide) rfl rfl (show 0 < 8 by decide) rfl ?_
  refine i_aload_n dn2_9 0 rfl rfl ?_
  refine i_iconst dn2_10 ki_0 ?_
  refine i_put (i := 0) (j := 1) (X' := [(h0, .inr (1, [.int (0 : Int32), .int (0 : Int32), .int 0, .int 0, .int 0, .int 0, .int 0, .null]))]) dn2_11 cf1 (by decide) fiX2_15 rfl rfl (by decide) rfl rfl (show 1 < 8 by decide) rfl ?_
  refine i_aload_n dn2_14 0 rfl rfl ?_
  refine i_iconst dn2_15 ki_0 ?_
  refine i_put (i := 0) (j := 2) (X' := [(h0, .inr (1, [.int (0 : Int32), .int (0 : Int32), .int (0 : Int32), .int 0, .int 0, .int 0, .int 0, .null]))]) dn2_16 cf1 (by decide) fiX2_18 rfl rfl (by decide) rfl rfl (show 2 < 8 by decide) rfl ?_
  refine i_aload_n dn2_19 0 rfl rfl ?_
  refine i_iconst dn2_20 ki_0 ?_
  refine i_put (i := 0) (j := 3) (X' := [(h0, .inr (1, [.int (0 : Int32), .int (0 : Int32), .int (0 : Int32), .int (0 : Int32), .int 0, .int 0, .int 0, .null]))]) dn2_21 cf1 (by decide) fiX2_21 rfl rfl (by decide) rfl rfl (show 3 < 8 by decide) rfl ?_
  refine i_aload_n dn2_24 0 rfl rfl ?_
  refine i_iconst dn2_25 ki_0 ?_
  refine i_put (i := 0) (j := 4) (X' := [(h0, .inr (1, [.int (0 : Int32), .int (0 : Int32), .int (0 : Int32), .int (0 : Int32), .int (0 : Int32), .int 0, .int 0, .null]))]) dn2_26 cf1 (by decide) fiX2_24 rfl rfl (by decide) rfl rfl (show 4 < 8 by decide) rfl ?_
  refine i_aload_n dn2_29 0 rfl rfl ?_
  refine i_iconst dn2_30 ki_0 ?_
  refine i_put (i := 0) (j := 5) (X' := [(h0, .inr (1, [.int (0 : Int32), .int (0 : Int32), .int (0 : Int32), .int (0 : Int32), .int (0 : Int32), .int (0 : Int32), .int 0, .null]))]) dn2_31 cf1 (by decide) fiX2_27 rfl rfl (by decide) rfl rfl (show 5 < 8 by decide) rfl ?_
  refine i_aload_n dn2_34 0 rfl rfl ?_
  refine i_iconst dn2_35 ki_0 ?_
  refine i_put (i := 0) (j := 6) (X' := [(h0, .inr (1, [.int (0 : Int32), .int (0 : Int32), .int (0 : Int32), .int (0 : Int32), .int (0 : Int32), .int (0 : Int32), .int (0 : Int32), .null]))]) dn2_36 cf1 (by decide) fiX2_31 rfl rfl (by decide) rfl rfl (show 6 < 8 by decide) rfl ?_
  refine i_aload_n dn2_39 0 rfl rfl ?_
  refine i_bipush dn2_40 kb_60 ?_
  refine i_newa (ty := .int) (i0 := 0) (N' := 60) (a0 := (60, .inl (fun _ => 0))) dn2_42 wA_int rfl rfl (fun _ _ _ h1 h2 => Option.some.inj (h1.symm.trans h2)) (fun _ => rfl) (by decide) rfl (by decide) (by decide) (by decide) fun q1 => ?_
  refine i_put (i := 0) (j := 7) (X' := [(h0, .inr (1, [.int (0 : Int32), .int (0 : Int32), .int (0 : Int32), .int (0 : Int32), .int (0 : Int32), .int (0 : Int32), .int (0 : Int32), .ref q1])), (q1, .inl (g.2 0, 60, .inl (fun _ => 0)))]) dn2_44 cf1 (by decide) fiX2_36 rfl rfl (by decide) rfl rfl (show 7 < 8 by decide) rfl ?_
  exact i_ret dn2_47 (by decide) (by decide) ⟨q1, rfl⟩)
theorem dn4_0 : decode cX4_init 0 = .ok (.aload_n 0, 1) := by decide +kernel
theorem dn4_1 : decode cX4_init 1 = .ok (.invokespecial 3, 3) := by decide +kernel
theorem dn4_4 : decode cX4_init 4 = .ok (.aload_n 0, 1) := by decide +kernel
theorem dn4_5 : decode cX4_init 5 = .ok (.iconst 0, 1) := by decide +kernel
theorem dn4_6 : decode cX4_init 6 = .ok (.putfield 9, 3) := by decide +kernel
theorem dn4_9 : decode cX4_init 9 = .ok (.aload_n 0, 1) := by decide +kernel
theorem dn4_10 : decode cX4_init 10 = .ok (.iconst 0, 1) := by decide +kernel
theorem dn4_11 : decode cX4_init 11 = .ok (.putfield 15, 3) := by decide +kernel
theorem dn4_14 : decode cX4_init 14 = .ok (.aload_n 0, 1) := by decide +kernel
theorem dn4_15 : decode cX4_init 15 = .ok (.iconst (-1), 1) := by decide +kernel
theorem dn4_16 : decode cX4_init 16 = .ok (.putfield 18, 3) := by decide +kernel
theorem dn4_19 : decode cX4_init 19 = .ok (.aload_n 0, 1) := by decide +kernel
theorem dn4_20 : decode cX4_init 20 = .ok (.iconst (-1), 1) := by decide +kernel
theorem dn4_21 : decode cX4_init 21 = .ok (.putfield 21, 3) := by decide +kernel
theorem dn4_24 : decode cX4_init 24 = .ok (.aload_n 0, 1) := by decide +kernel
theorem dn4_25 : decode cX4_init 25 = .ok (.iconst (-1), 1) := by decide +kernel
theorem dn4_26 : decode cX4_init 26 = .ok (.putfield 24, 3) := by decide +kernel
theorem dn4_29 : decode cX4_init 29 = .ok (.return_, 1) := by decide +kernel
def Post4 (g : IG) (h0 : Nat) (ws : va_W) : Prop := ws = [(h0, .inr (2, [.int (0 : Int32), .int (0 : Int32), .int (-1 : Int32), .int (-1 : Int32), .int (-1 : Int32)]))] ++ []
set_option maxRecDepth 100000 in
set_option maxHeartbeats 4000000 in
theorem mi4 : MI yX4_init cX4_init 1 1 0 0 2 [.int 0, .int 0, .int 0, .int 0, .int 0] Post4 := MI.of (by decide) rfl (by decide) (by decide) (fun g h0 => by
  show VI _ _ RX4 g _ _ _ 0 0 0 _ _
  refine i_aload_n dn4_0 0 rfl rfl ?_
  refine i_obj dn4_1 wLX4_1 wOI wOC (by decide) (Nat.le_of_ble_eq_true rfl) ?_
  refine i_aload_n dn4_4 0 rfl rfl ?_
  refine i_iconst dn4_5 ki_0 ?_
  refine i_put (i := 0) (j := 0) (X' := [(h0, .inr (2, [.int (0 : Int32), .int 0, .int 0, .int 0, .int 0]))]) dn4_6 cf2 (by decide) fiX4_9 rfl rfl (by decide) rfl rfl (show 0 < 5 by decide) rfl ?_
  refine i_aload_n dn4_9 0 rfl rfl ?_
  refine i_iconst dn4_10 ki_0 ?_
  refine i_put (i := 0) (j := 1) (X' := [(h0, .inr (2, [.int (0 : Int32), .int (0 : Int32), .int 0, .int 0, .int 0]))]) dn4_11 cf2 (by decide) fiX4_15 rfl rfl (by decide) rfl rfl (show 1 < 5 by decide) rfl ?_
  refine i_aload_n dn4_14 0 rfl rfl ?_
  refine i_iconst dn4_15 ki_m1 ?_
  refine i_put (i := 0) (j := 2) (X' := [(h0, .inr (2, [.int (0 : Int32), .int (0 : Int32), .int (-1 : Int32), .int 0, .int 0]))]) dn4_16 cf2 (by decide) fiX4_18 rfl rfl (by decide) rfl rfl (show 2 < 5 by decide) rfl ?_
  refine i_aload_n dn4_19 0 rfl rfl ?_
  refine i_iconst dn4_20 ki_m1 ?_
  refine i_put (i := 0) (j := 3) (X' := [(h0, .inr (2, [.int (0 : Int32), .int (0 : Int32), .int (-1 : Int32), .int (-1 : Int32), .int 0]))]) dn4_21 cf2 (by decide) fiX4_21 rfl rfl (by decide) rfl rfl (show 3 < 5 by decide) rfl ?_
  refine i_aload_n dn4_24 0 rfl rfl ?_
  refine i_iconst dn4_25 ki_m1 ?_
  refine i_put (i := 0) (j := 4) (X' := [(h0, .inr (2, [.int (0 : Int32), .int (0 : Int32), .int (-1 : Int32), .int (-1 : Int32), .int (-1 : Int32)]))]) dn4_26 cf2 (by decide) fiX4_24 rfl rfl (by decide) rfl rfl (show 4 < 5 by decide) rfl ?_
  exact i_ret dn4_29 (by decide) (by decide) rfl)
theorem dn5_0 : decode cX5_init 0 = .ok (.aload_n 0, 1) := by decide +kernel
theorem dn5_1 : decode cX5_init 1 = .ok (.invokespecial 5, 3) := by decide +kernel
theorem dn5_4 : decode cX5_init 4 = .ok (.aload_n 0, 1) := by decide +kernel
theorem dn5_5 : decode cX5_init 5 = .ok (.iconst 0, 1) := by decide +kernel
theorem dn5_6 : decode cX5_init 6 = .ok (.putfield 11, 3) := by decide +kernel
theorem dn5_9 : decode cX5_init 9 = .ok (.aload_n 0, 1) := by decide +kernel
theorem dn5_10 : decode cX5_init 10 = .ok (.iconst 0, 1) := by decide +kernel
theorem dn5_11 : decode cX5_init 11 = .ok (.putfield 15, 3) := by decide +kernel
theorem dn5_14 : decode cX5_init 14 = .ok (.aload_n 0, 1) := by decide +kernel
theorem dn5_15 : decode cX5_init 15 = .ok (.iconst 0, 1) := by decide +kernel
theorem dn5_16 : decode cX5_init 16 = .ok (.putfield 19, 3) := by decide +kernel
theorem dn5_19 : decode cX5_init 19 = .ok (.aload_n 0, 1) := by decide +kernel
theorem dn5_20 : decode cX5_init 20 = .ok (.bipush 60, 2) := by decide +kernel
theorem dn5_22 : decode cX5_init 22 = .ok (.newarray .int, 2) := by decide +kernel
theorem dn5_24 : decode cX5_init 24 = .ok (.putfield 22, 3) := by decide +kernel
theorem dn5_27 : decode cX5_init 27 = .ok (.aload_n 0, 1) := by decide +kernel
theorem dn5_28 : decode cX5_init 28 = .ok (.bipush 60, 2) := by decide +kernel
theorem dn5_30 : decode cX5_init 30 = .ok (.newarray .int, 2) := by decide +kernel
theorem dn5_32 : decode cX5_init 32 = .ok (.putfield 26, 3) := by decide +kernel
theorem dn5_35 : decode cX5_init 35 = .ok (.aload_n 0, 1) := by decide +kernel
theorem dn5_36 : decode cX5_init 36 = .ok (.bipush 60, 2) := by decide +kernel
theorem dn5_38 : decode cX5_init 38 = .ok (.newarray .int, 2) := by decide +kernel
theorem dn5_40 : decode cX5_init 40 = .ok (.putfield 29, 3) := by decide +kernel
theorem dn5_43 : decode cX5_init 43 = .ok (.aload_n 0, 1) := by decide +kernel
theorem dn5_44 : decode cX5_init 44 = .ok (.bipush 60, 2) := by decide +kernel
theorem dn5_46 : decode cX5_init 46 = .ok (.newarray .int, 2) := by decide +kernel
theorem dn5_48 : decode cX5_init 48 = .ok (.putfield 32, 3) := by decide +kernel
theorem dn5_51 : decode cX5_init 51 = .ok (.aload_n 0, 1) := by decide +kernel
theorem dn5_52 : decode cX5_init 52 = .ok (.bipush 60, 2) := by decide +kernel
theorem dn5_54 : decode cX5_init 54 = .ok (.newarray .int, 2) := by decide +kernel
theorem dn5_56 : decode cX5_init 56 = .ok (.putfield 35, 3) := by decide +kernel
theorem dn5_59 : decode cX5_init 59 = .ok (.aload_n 0, 1) := by decide +kernel
theorem dn5_60 : decode cX5_init 60 = .ok (.iconst 0, 1) := by decide +kernel
theorem dn5_61 : decode cX5_init 61 = .ok (.putfield 38, 3) := by decide +kernel
theorem dn5_64 : decode cX5_init 64 = .ok (.aload_n 0, 1) := by decide +kernel
theorem dn5_65 : decode cX5_init 65 = .ok (.iconst 3, 1) := by decide +kernel
theorem dn5_66 : decode cX5_init 66 = .ok (.newarray .int, 2) := by decide +kernel
theorem dn5_68 : decode cX5_init 68 = .ok (.putfield 41, 3) := by decide +kernel
theorem dn5_71 : decode cX5_init 71 = .ok (.return_, 1) := by decide +kernel
def Post5 (g : IG) (h0 : Nat) (ws : va_W) : Prop := ∃ (q1 : Nat) (q2 : Nat) (q3 : Nat) (q4 : Nat) (q5 : Nat) (q6 : Nat), ws = [(h0, .inr (3, [.int (0 : Int32), .int (0 : Int32), .int (0 : Int32), .ref q1, .ref q2, .ref q3, .ref q4, .ref q5, .int (0 : Int32), .ref q6])), (q1, .inl (g.2 0, 60, .inl (fun _ => 0))), (q2, .inl (g.2 0, 60, .inl (fun _ => 0))), (q3, .inl (g.2 0, 60, .inl (fun _ => 0))), (q4, .inl (g.2 0, 60, .inl (fun _ => 0))), (q5, .inl (g.2 0, 60, .inl (fun _ => 0))), (q6, .inl (g.2 0, 3, .inl (fun _ => 0)))] ++ []
theorem post5_head {g : IG} {h0 : Nat} {ws : va_W} (h : Post5 g h0 ws) : ∃ vs, (h0, (.inr (3, vs) : va_E)) ∈ ws := by
  obtain ⟨q1, q2, q3, q4, q5, q6, rfl⟩ := h
  exact ⟨_, List.mem_cons_self⟩
set_option maxRecDepth 100000 in
set_option maxHeartbeats 4000000 in
theorem mi5 : MI yX5_init cX5_init 1 1 6 303 3 [.int 0, .int 0, .int 0, .null, .null, .null, .null, .null, .int 0, .null] Post5 := MI.of (by decide) rfl (by decide) (by decide) (fun g h0 => by
  show VI _ _ RX5 g _ _ _ 0 0 0 _ _
  refine i_aload_n dn5_0 0 rfl rfl ?_
  refine i_obj dn5_1 wLX5_1 wOI wOC (by decide) (Nat.le_of_ble_eq_true rfl) ?_
  refine i_aload_n dn5_4 0 rfl rfl ?_
  refine i_iconst dn5_5 ki_0 ?_
  refine i_put (i := 0) (j := 0) (X' := [(h0, .inr (3, [.int (0 : Int32), .int 0, .int 0, .null, .null, .null, .null, .null, .int 0, .null]))]) dn5_6 cf3 (by decide) fiX5_11 rfl rfl (by decide) rfl rfl (show 0 < 10 by decide) rfl ?_
  refine i_aload_n dn5_9 0 rfl rfl ?_
  refine i_iconst dn5_10 ki_0 ?_
  refine i_put (i := 0) (j := 1) (X' := [(h0, .inr (3, [.int (0 : Int32), .int (0 : Int32), .int 0, .null, .null, .null, .null, .null, .int 0, .null]))]) dn5_11 cf3 (by decide) fiX5_15 rfl rfl (by decide) rfl rfl (show 1 < 10 by decide) rfl ?_
  refine i_aload_n dn5_14 0 rfl rfl ?_
  refine i_iconst dn5_15 ki_0 ?_
  refine i_put (i := 0) (j := 2) (X' := [(h0, .inr (3, [.int (0 : Int32), .int (0 : Int32), .int (0 : Int32), .null, .null, .null, .null, .null, .int 0, .null]))]) dn5_16 cf3 (by decide) fiX5_19 rfl rfl (by decide) rfl rfl (show 2 < 10 by decide) rfl ?_
  refine i_aload_n dn5_19 0 rfl rfl ?_
  refine i_bipush dn5_20 kb_60 ?_
  refine i_newa (ty := .int) (i0 := 0) (N' := 60) (a0 := (60, .inl (fun _ => 0))) dn5_22 wA_int rfl rfl (fun _ _ _ h1 h2 => Option.some.inj (h1.symm.trans h2)) (fun _ => rfl) (by decide) rfl (by decide) (by decide) (by decide) fun q1 => ?_
  refine i_put (i := 0) (j := 3) (X' := [(h0, .inr (3, [.int (0 : Int32), .int (0 : Int32), .int (0 : Int32), .ref q1, .null, .null, .null, .null, .int 0, .null])), (q1, .inl (g.2 0, 60, .inl (fun _ => 0)))]) dn5_24 cf3 (by decide) fiX5_22 rfl rfl (by decide) rfl rfl (show 3 < 10 by decide) rfl ?_
  refine i_aload_n dn5_27 0 rfl rfl ?_
  refine i_bipush dn5_28 kb_60 ?_
  refine i_newa (ty := .int) (i0 := 0) (N' := 60) (a0 := (60, .inl (fun _ => 0))) dn5_30 wA_int rfl rfl (fun _ _ _ h1 h2 => Option.some.inj (h1.symm.trans h2)) (fun _ => rfl) (by decide) rfl (by decide) (by decide) (by decide) fun q2 => ?_
  refine i_put (i := 0) (j := 4) (X' := [(h0, .inr (3, [.int (0 : Int32), .int (0 : Int32), .int (0 : Int32), .ref q1, .ref q2, .null, .null, .null, .int 0, .null])), (q1, .inl (g.2 0, 60, .inl (fun _ => 0))), (q2, .inl (g.2 0, 60, .inl (fun _ => 0)))]) dn5_32 cf3 (by decide) fiX5_26 rfl rfl (by decide) rfl rfl (show 4 < 10 by decide) rfl ?_
  refine i_aload_n dn5_35 0 rfl rfl ?_
  refine i_bipush dn5_36 kb_60 ?_
  refine i_newa (ty := .int) (i0 := 0) (N' := 60) (a0 := (60, .inl (fun _ => 0))) dn5_38 wA_int rfl rfl (fun _ _ _ h1 h2 => Option.some.inj (h1.symm.trans h2)) (fun _ => rfl) (by decide) rfl (by decide) (by decide) (by decide) fun q3 => ?_
  refine i_put (i := 0) (j := 5) (X' := [(h0, .inr (3, [.int (0 : Int32), .int (0 : Int32), .int (0 : Int32), .ref q1, .ref q2, .ref q3, .null, .null, .int 0, .null])), (q1, .inl (g.2 0, 60, .inl (fun _ => 0))), (q2, .inl (g.2 0, 60, .inl (fun _ => 0))), (q3, .inl (g.2 0, 60, .inl (fun _ => 0)))]) dn5_40 cf3 (by decide) fiX5_29 rfl rfl (by decide) rfl rfl (show 5 < 10 by decide) rfl ?_
  refine i_aload_n dn5_43 0 rfl rfl ?_
  refine i_bipush dn5_44 kb_60 ?_
  refine i_newa (ty := .int) (i0 := 0) (N' := 60) (a0 := (60, .inl (fun _ => 0))) dn5_46 wA_int rfl rfl (fun _ _ _ h1 h2 => Option.some.inj (h1.symm.trans h2)) (fun _ => rfl) (by decide) rfl (by decide) (by decide) (by decide) fun q4 => ?_
  refine i_put (i := 0) (j := 6) (X' := [(h0, .inr (3, [.int (0 : Int32), .int (0 : Int32), .int (0 : Int32), .ref q1, .ref q2, .ref q3, .ref q4, .null, .int 0, .null])), (q1, .inl (g.2 0, 60, .inl (fun _ => 0))), (q2, .inl (g.2 0, 60, .inl (fun _ => 0))), (q3, .inl (g.2 0, 60, .inl (fun _ => 0))), (q4, .inl (g.2 0, 60, .inl (fun _ => 0)))]) dn5_48 cf3 (by decide) fiX5_32 rfl rfl (by decide) rfl rfl (show 6 < 10 by decide) rfl ?_
  refine i_aload_n dn5_51 0 rfl rfl ?_
  refine i_bipush dn5_52 kb_60 ?_
  refine i_newa (ty := .int) (i0 := 0) (N' := 60) (a0 := (60, .inl (fun _ => 0))) dn5_54 wA_int rfl rfl (fun _ _ _ h1 h2 => Option.some.inj (h1.symm.trans h2)) (fun _ => rfl) (by decide) rfl (by decide) (by decide) (by decide) fun q5 => ?_
  refine i_put (i := 0) (j := 7) (X' := [(h0, .inr (3, [.int (0 : Int32), .int (0 : Int32), .int (0 : Int32), .ref q1, .ref q2, .ref q3, .ref q4, .ref q5, .int 0, .null])), (q1, .inl (g.2 0, 60, .inl (fun _ => 0))), (q2, .inl (g.2 0, 60, .inl (fun _ => 0))), (q3, .inl (g.2 0, 60, .inl (fun _ => 0))), (q4, .inl (g.2 0, 60, .inl (fun _ => 0))), (q5, .inl (g.2 0, 60, .inl (fun _ => 0)))]) dn5_56 cf3 (by decide) fiX5_35 rfl rfl (by decide) rfl rfl (show 7 < 10 by decide) rfl ?_
  refine i_aload_n dn5_59 0 rfl rfl ?_
  refine i_iconst dn5_60 ki_0 ?_
  refine i_put (i := 0) (j := 8) (X' := [(h0, .inr (3, [.int (0 : Int32), .int (0 : Int32), .int (0 : Int32), .ref q1, .ref q2, .ref q3, .ref q4, .ref q5, .int (0 : Int32), .null])), (q1, .inl (g.2 0, 60, .inl (fun _ => 0))), (q2, .inl (g.2 0, 60, .inl (fun _ => 0))), (q3, .inl (g.2 0, 60, .inl (fun _ => 0))), (q4, .inl (g.2 0, 60, .inl (fun _ => 0))), (q5, .inl (g.2 0, 60, .inl (fun _ => 0)))]) dn5_61 cf3 (by decide) fiX5_38 rfl rfl (by decide) rfl rfl (show 8 < 10 by decide) rfl ?_
  refine i_aload_n dn5_64 0 rfl rfl ?_
  refine i_iconst dn5_65 ki_3 ?_
  refine i_newa (ty := .int) (i0 := 0) (N' := 3) (a0 := (3, .inl (fun _ => 0))) dn5_66 wA_int rfl rfl (fun _ _ _ h1 h2 => Option.some.inj (h1.symm.trans h2)) (fun _ => rfl) (by decide) rfl (by decide) (by decide) (by decide) fun q6 => ?_
  refine i_put (i := 0) (j := 9) (X' := [(h0, .inr (3, [.int (0 : Int32), .int (0 : Int32), .int (0 : Int32), .ref q1, .ref q2, .ref q3, .ref q4, .ref q5, .int (0 : Int32), .ref q6])), (q1, .inl (g.2 0, 60, .inl (fun _ => 0))), (q2, .inl (g.2 0, 60, .inl (fun _ => 0))), (q3, .inl (g.2 0, 60, .inl (fun _ => 0))), (q4, .inl (g.2 0, 60, .inl (fun _ => 0))), (q5, .inl (g.2 0, 60, .inl (fun _ => 0))), (q6, .inl (g.2 0, 3, .inl (fun _ => 0)))]) dn5_68 cf3 (by decide) fiX5_41 rfl rfl (by decide) rfl rfl (show 9 < 10 by decide) rfl ?_
  exact i_ret dn5_71 (by decide) (by decide) ⟨q1, q2, q3, q4, q5, q6, rfl⟩)
theorem dn7_0 : decode cX7_init 0 = .ok (.aload_n 0, 1) := by decide +kernel
theorem dn7_1 : decode cX7_init 1 = .ok (.invokespecial 3, 3) := by decide +kernel
theorem dn7_4 : decode cX7_init 4 = .ok (.aload_n 0, 1) := by decide +kernel
theorem dn7_5 : decode cX7_init 5 = .ok (.bipush 20, 2) := by decide +kernel
theorem dn7_7 : decode cX7_init 7 = .ok (.newarray .int, 2) := by decide +kernel
theorem dn7_9 : decode cX7_init 9 = .ok (.putfield 9, 3) := by decide +kernel
theorem dn7_12 : decode cX7_init 12 = .ok (.aload_n 0, 1) := by decide +kernel
theorem dn7_13 : decode cX7_init 13 = .ok (.bipush 6, 2) := by decide +kernel
theorem dn7_15 : decode cX7_init 15 = .ok (.newarray .int, 2) := by decide +kernel
theorem dn7_17 : decode cX7_init 17 = .ok (.putfield 15, 3) := by decide +kernel
theorem dn7_20 : decode cX7_init 20 = .ok (.aload_n 0, 1) := by decide +kernel
theorem dn7_21 : decode cX7_init 21 = .ok (.bipush 6, 2) := by decide +kernel
theorem dn7_23 : decode cX7_init 23 = .ok (.newarray .int, 2) := by decide +kernel
theorem dn7_25 : decode cX7_init 25 = .ok (.putfield 18, 3) := by decide +kernel
theorem dn7_28 : decode cX7_init 28 = .ok (.aload_n 0, 1) := by decide +kernel
theorem dn7_29 : decode cX7_init 29 = .ok (.iconst 2, 1) := by decide +kernel
theorem dn7_30 : decode cX7_init 30 = .ok (.bipush 64, 2) := by decide +kernel
theorem dn7_32 : decode cX7_init 32 = .ok (.multianewarray 21 2, 4) := by decide +kernel
theorem dn7_36 : decode cX7_init 36 = .ok (.putfield 23, 3) := by decide +kernel
theorem dn7_39 : decode cX7_init 39 = .ok (.return_, 1) := by decide +kernel
def Post7 (g : IG) (h0 : Nat) (ws : va_W) : Prop := ∃ (q1 : Nat) (q2 : Nat) (q3 : Nat) (q4 : Nat) (r4 : Nat → Nat), ws = [(h0, .inr (4, [.ref q1, .ref q2, .ref q3, .ref q4])), (q1, .inl (g.2 0, 20, .inl (fun _ => 0))), (q2, .inl (g.2 0, 6, .inl (fun _ => 0))), (q3, .inl (g.2 0, 6, .inl (fun _ => 0))), (q4, .inl (g.2 3, 2, .inr (.inr (.inr (.inr (fun i => if i < 2 then some (r4 i) else none)))))), (r4 0, .inl (g.2 1, 64, .inr (.inl (fun _ => 0)))), (r4 1, .inl (g.2 1, 64, .inr (.inl (fun _ => 0))))] ++ []
set_option maxRecDepth 100000 in
set_option maxHeartbeats 4000000 in
theorem mi7 : MI yX7_init cX7_init 1 1 6 162 4 [.null, .null, .null, .null] Post7 := MI.of (by decide) rfl (by decide) (by decide) (fun g h0 => by
  show VI _ _ RX7 g _ _ _ 0 0 0 _ _
  refine i_aload_n dn7_0 0 rfl rfl ?_
  refine i_obj dn7_1 wLX7_1 wOI wOC (by decide) (Nat.le_of_ble_eq_true rfl) ?_
  refine i_aload_n dn7_4 0 rfl rfl ?_
  refine i_bipush dn7_5 kb_20 ?_
  refine i_newa (ty := .int) (i0 := 0) (N' := 20) (a0 := (20, .inl (fun _ => 0))) dn7_7 wA_int rfl rfl (fun _ _ _ h1 h2 => Option.some.inj (h1.symm.trans h2)) (fun _ => rfl) (by decide) rfl (by decide) (by decide) (by decide) fun q1 => ?_
  refine i_put (i := 0) (j := 0) (X' := [(h0, .inr (4, [.ref q1, .null, .null, .null])), (q1, .inl (g.2 0, 20, .inl (fun _ => 0)))]) dn7_9 cf4 (by decide) fiX7_9 rfl rfl (by decide) rfl rfl (show 0 < 4 by decide) rfl ?_
  refine i_aload_n dn7_12 0 rfl rfl ?_
  refine i_bipush dn7_13 kb_6 ?_
  refine i_newa (ty := .int) (i0 := 0) (N' := 6) (a0 := (6, .inl (fun _ => 0))) dn7_15 wA_int rfl rfl (fun _ _ _ h1 h2 => Option.some.inj (h1.symm.trans h2)) (fun _ => rfl) (by decide) rfl (by decide) (by decide) (by decide) fun q2 => ?_
  refine i_put (i := 0) (j := 1) (X' := [(h0, .inr (4, [.ref q1, .ref q2, .null, .null])), (q1, .inl (g.2 0, 20, .inl (fun _ => 0))), (q2, .inl (g.2 0, 6, .inl (fun _ => 0)))]) dn7_17 cf4 (by decide) fiX7_15 rfl rfl (by decide) rfl rfl (show 1 < 4 by decide) rfl ?_
  refine i_aload_n dn7_20 0 rfl rfl ?_
  refine i_bipush dn7_21 kb_6 ?_
  refine i_newa (ty := .int) (i0 := 0) (N' := 6) (a0 := (6, .inl (fun _ => 0))) dn7_23 wA_int rfl rfl (fun _ _ _ h1 h2 => Option.some.inj (h1.symm.trans h2)) (fun _ => rfl) (by decide) rfl (by decide) (by decide) (by decide) fun q3 => ?_
  refine i_put (i := 0) (j := 2) (X' := [(h0, .inr (4, [.ref q1, .ref q2, .ref q3, .null])), (q1, .inl (g.2 0, 20, .inl (fun _ => 0))), (q2, .inl (g.2 0, 6, .inl (fun _ => 0))), (q3, .inl (g.2 0, 6, .inl (fun _ => 0)))]) dn7_25 cf4 (by decide) fiX7_18 rfl rfl (by decide) rfl rfl (show 2 < 4 by decide) rfl ?_
  refine i_aload_n dn7_28 0 rfl rfl ?_
  refine i_iconst dn7_29 ki_2 ?_
  refine i_bipush dn7_30 kb_64 ?_
  refine i_mna (N' := 2) (K' := 64) dn7_32 wCX7_21 wA_long (by decide) (by decide) rfl rfl (by decide) (by decide) (by decide) (by decide) fun q4 r4 => ?_
  refine VI.cast (X' := [(h0, .inr (4, [.ref q1, .ref q2, .ref q3, .null])), (q1, .inl (g.2 0, 20, .inl (fun _ => 0))), (q2, .inl (g.2 0, 6, .inl (fun _ => 0))), (q3, .inl (g.2 0, 6, .inl (fun _ => 0))), (q4, .inl (g.2 3, 2, .inr (.inr (.inr (.inr (fun i => if i < 2 then some (r4 i) else none)))))), (r4 0, .inl (g.2 1, 64, .inr (.inl (fun _ => 0)))), (r4 1, .inl (g.2 1, 64, .inr (.inl (fun _ => 0))))]) rfl ?_
  refine i_put (i := 0) (j := 3) (X' := [(h0, .inr (4, [.ref q1, .ref q2, .ref q3, .ref q4])), (q1, .inl (g.2 0, 20, .inl (fun _ => 0))), (q2, .inl (g.2 0, 6, .inl (fun _ => 0))), (q3, .inl (g.2 0, 6, .inl (fun _ => 0))), (q4, .inl (g.2 3, 2, .inr (.inr (.inr (.inr (fun i => if i < 2 then some (r4 i) else none)))))), (r4 0, .inl (g.2 1, 64, .inr (.inl (fun _ => 0)))), (r4 1, .inl (g.2 1, 64, .inr (.inl (fun _ => 0))))]) dn7_36 cf4 (by decide) fiX7_23 rfl rfl (by decide) rfl rfl (show 3 < 4 by decide) rfl ?_
  exact i_ret dn7_39 (by decide) (by decide) ⟨q1, q2, q3, q4, r4, rfl⟩)
theorem dn8_0 : decode cX8_init 0 = .ok (.aload_n 0, 1) := by decide +kernel
theorem dn8_1 : decode cX8_init 1 = .ok (.invokespecial 3, 3) := by decide +kernel
theorem dn8_4 : decode cX8_init 4 = .ok (.aload_n 0, 1) := by decide +kernel
theorem dn8_5 : decode cX8_init 5 = .ok (.sipush 900, 3) := by decide +kernel
theorem dn8_8 : decode cX8_init 8 = .ok (.newarray .byte, 2) := by decide +kernel
theorem dn8_10 : decode cX8_init 10 = .ok (.putfield 9, 3) := by decide +kernel
theorem dn8_13 : decode cX8_init 13 = .ok (.aload_n 0, 1) := by decide +kernel
theorem dn8_14 : decode cX8_init 14 = .ok (.iconst 0, 1) := by decide +kernel
theorem dn8_15 : decode cX8_init 15 = .ok (.putfield 15, 3) := by decide +kernel
theorem dn8_18 : decode cX8_init 18 = .ok (.aload_n 0, 1) := by decide +kernel
theorem dn8_19 : decode cX8_init 19 = .ok (.iconst 0, 1) := by decide +kernel
theorem dn8_20 : decode cX8_init 20 = .ok (.putfield 19, 3) := by decide +kernel
theorem dn8_23 : decode cX8_init 23 = .ok (.aload_n 0, 1) := by decide +kernel
theorem dn8_24 : decode cX8_init 24 = .ok (.iconst (-1), 1) := by decide +kernel
theorem dn8_25 : decode cX8_init 25 = .ok (.putfield 22, 3) := by decide +kernel
theorem dn8_28 : decode cX8_init 28 = .ok (.aload_n 0, 1) := by decide +kernel
theorem dn8_29 : decode cX8_init 29 = .ok (.iconst 0, 1) := by decide +kernel
theorem dn8_30 : decode cX8_init 30 = .ok (.putfield 25, 3) := by decide +kernel
theorem dn8_33 : decode cX8_init 33 = .ok (.aload_n 0, 1) := by decide +kernel
theorem dn8_34 : decode cX8_init 34 = .ok (.iconst 0, 1) := by decide +kernel
theorem dn8_35 : decode cX8_init 35 = .ok (.putfield 28, 3) := by decide +kernel
theorem dn8_38 : decode cX8_init 38 = .ok (.aload_n 0, 1) := by decide +kernel
theorem dn8_39 : decode cX8_init 39 = .ok (.iconst 0, 1) := by decide +kernel
theorem dn8_40 : decode cX8_init 40 = .ok (.putfield 31, 3) := by decide +kernel
theorem dn8_43 : decode cX8_init 43 = .ok (.aload_n 0, 1) := by decide +kernel
theorem dn8_44 : decode cX8_init 44 = .ok (.iconst 0, 1) := by decide +kernel
theorem dn8_45 : decode cX8_init 45 = .ok (.putfield 34, 3) := by decide +kernel
theorem dn8_48 : decode cX8_init 48 = .ok (.aload_n 0, 1) := by decide +kernel
theorem dn8_49 : decode cX8_init 49 = .ok (.iconst 0, 1) := by decide +kernel
theorem dn8_50 : decode cX8_init 50 = .ok (.putfield 37, 3) := by decide +kernel
theorem dn8_53 : decode cX8_init 53 = .ok (.return_, 1) := by decide +kernel
def Post8 (g : IG) (h0 : Nat) (ws : va_W) : Prop := ∃ (q1 : Nat), ws = [(h0, .inr (5, [.ref q1, .int (0 : Int32), .int (0 : Int32), .int (-1 : Int32), .int (0 : Int32), .int (0 : Int32), .int (0 : Int32), .int (0 : Int32), .int (0 : Int32)])), (q1, .inl (g.2 2, 900, .inl (fun _ => 0)))] ++ []
set_option maxRecDepth 100000 in
set_option maxHeartbeats 4000000 in
theorem mi8 : MI yX8_init cX8_init 1 1 1 900 5 [.null, .int 0, .int 0, .int 0, .int 0, .int 0, .int 0, .int 0, .int 0] Post8 := MI.of (by decide) rfl (by decide) (by decide) (fun g h0 => by
  show VI _ _ RX8 g _ _ _ 0 0 0 _ _
  refine i_aload_n dn8_0 0 rfl rfl ?_
  refine i_obj dn8_1 wLX8_1 wOI wOC (by decide) (Nat.le_of_ble_eq_true rfl) ?_
  refine i_aload_n dn8_4 0 rfl rfl ?_
  refine i_sipush dn8_5 ks_900 ?_
  refine i_newa (ty := .byte) (i0 := 2) (N' := 900) (a0 := (900, .inl (fun _ => 0))) dn8_8 wA_byte rfl rfl (fun _ _ _ h1 h2 => Option.some.inj (h1.symm.trans h2)) (fun _ => rfl) (by decide) rfl (by decide) (by decide) (by decide) fun q1 => ?_
  refine i_put (i := 0) (j := 0) (X' := [(h0, .inr (5, [.ref q1, .int 0, .int 0, .int 0, .int 0, .int 0, .int 0, .int 0, .int 0])), (q1, .inl (g.2 2, 900, .inl (fun _ => 0)))]) dn8_10 cf5 (by decide) fiX8_9 rfl rfl (by decide) rfl rfl (show 0 < 9 by decide) rfl ?_
  refine i_aload_n dn8_13 0 rfl rfl ?_
  refine i_iconst dn8_14 ki_0 ?_
  refine i_put (i := 0) (j := 1) (X' := [(h0, .inr (5, [.ref q1, .int (0 : Int32), .int 0, .int 0, .int 0, .int 0, .int 0, .int 0, .int 0])), (q1, .inl (g.2 2, 900, .inl (fun _ => 0)))]) dn8_15 cf5 (by decide) fiX8_15 rfl rfl (by decide) rfl rfl (show 1 < 9 by decide) rfl ?_
  refine i_aload_n dn8_18 0 rfl rfl ?_
  refine i_iconst dn8_19 ki_0 ?_
  refine i_put (i := 0) (j := 2) (X' := [(h0, .inr (5, [.ref q1, .int (0 : Int32), .int (0 : Int32), .int 0, .int 0, .int 0, .int 0, .int 0, .int 0])), (q1, .inl (g.2 2, 900, .inl (fun _ => 0)))]) dn8_20 cf5 (by decide) fiX8_19 rfl rfl (by decide) rfl rfl (show 2 < 9 by decide) rfl ?_
  refine i_aload_n dn8_23 0 rfl rfl ?_
  refine i_iconst dn8_24 ki_m1 ?_
  refine i_put (i := 0) (j := 3) (X' := [(h0, .inr (5, [.ref q1, .int (0 : Int32), .int (0 : Int32), .int (-1 : Int32), .int 0, .int 0, .int 0, .int 0, .int 0])), (q1, .inl (g.2 2, 900, .inl (fun _ => 0)))]) dn8_25 cf5 (by decide) fiX8_22 rfl rfl (by decide) rfl rfl (show 3 < 9 by decide) rfl ?_
  refine i_aload_n dn8_28 0 rfl rfl ?_
  refine i_iconst dn8_29 ki_0 ?_
  refine i_put (i := 0) (j := 4) (X' := [(h0, .inr (5, [.ref q1, .int (0 : Int32), .int (0 : Int32), .int (-1 : Int32), .int (0 : Int32), .int 0, .int 0, .int 0, .int 0])), (q1, .inl (g.2 2, 900, .inl (fun _ => 0)))]) dn8_30 cf5 (by decide) fiX8_25 rfl rfl (by decide) rfl rfl (show 4 < 9 by decide) rfl ?_
  refine i_aload_n dn8_33 0 rfl rfl ?_
  refine i_iconst dn8_34 ki_0 ?_
  refine i_put (i := 0) (j := 5) (X' := [(h0, .inr (5, [.ref q1, .int (0 : Int32), .int (0 : Int32), .int (-1 : Int32), .int (0 : Int32), .int (0 : Int32), .int 0, .int 0, .int 0])), (q1, .inl (g.2 2, 900, .inl (fun _ => 0)))]) dn8_35 cf5 (by decide) fiX8_28 rfl rfl (by decide) rfl rfl (show 5 < 9 by decide) rfl ?_
  refine i_aload_n dn8_38 0 rfl rfl ?_
  refine i_iconst dn8_39 ki_0 ?_
  refine i_put (i := 0) (j := 6) (X' := [(h0, .inr (5, [.ref q1, .int (0 : Int32), .int (0 : Int32), .int (-1 : Int32), .int (0 : Int32), .int (0 : Int32), .int (0 : Int32), .int 0, .int 0])), (q1, .inl (g.2 2, 900, .inl (fun _ => 0)))]) dn8_40 cf5 (by decide) fiX8_31 rfl rfl (by decide) rfl rfl (show 6 < 9 by decide) rfl ?_
  refine i_aload_n dn8_43 0 rfl rfl ?_
  refine i_iconst dn8_44 ki_0 ?_
  refine i_put (i := 0) (j := 7) (X' := [(h0, .inr (5, [.ref q1, .int (0 : Int32), .int (0 : Int32), .int (-1 : Int32), .int (0 : Int32), .int (0 : Int32), .int (0 : Int32), .int (0 : Int32), .int 0])), (q1, .inl (g.2 2, 900, .inl (fun _ => 0)))]) dn8_45 cf5 (by decide) fiX8_34 rfl rfl (by decide) rfl rfl (show 7 < 9 by decide) rfl ?_
  refine i_aload_n dn8_48 0 rfl rfl ?_
  refine i_iconst dn8_49 ki_0 ?_
  refine i_put (i := 0) (j := 8) (X' := [(h0, .inr (5, [.ref q1, .int (0 : Int32), .int (0 : Int32), .int (-1 : Int32), .int (0 : Int32), .int (0 : Int32), .int (0 : Int32), .int (0 : Int32), .int (0 : Int32)])), (q1, .inl (g.2 2, 900, .inl (fun _ => 0)))]) dn8_50 cf5 (by decide) fiX8_37 rfl rfl (by decide) rfl rfl (show 8 < 9 by decide) rfl ?_
  exact i_ret dn8_53 (by decide) (by decide) ⟨q1, rfl⟩)
theorem dn9_0 : decode cX9_init 0 = .ok (.aload_n 0, 1) := by decide +kernel
theorem dn9_1 : decode cX9_init 1 = .ok (.invokespecial 3, 3) := by decide +kernel
theorem dn9_4 : decode cX9_init 4 = .ok (.aload_n 0, 1) := by decide +kernel
theorem dn9_5 : decode cX9_init 5 = .ok (.iconst 4, 1) := by decide +kernel
theorem dn9_6 : decode cX9_init 6 = .ok (.bipush 60, 2) := by decide +kernel
theorem dn9_8 : decode cX9_init 8 = .ok (.multianewarray 11 2, 4) := by decide +kernel
theorem dn9_12 : decode cX9_init 12 = .ok (.putfield 13, 3) := by decide +kernel
theorem dn9_15 : decode cX9_init 15 = .ok (.aload_n 0, 1) := by decide +kernel
theorem dn9_16 : decode cX9_init 16 = .ok (.iconst 4, 1) := by decide +kernel
theorem dn9_17 : decode cX9_init 17 = .ok (.newarray .int, 2) := by decide +kernel
theorem dn9_19 : decode cX9_init 19 = .ok (.putfield 16, 3) := by decide +kernel
theorem dn9_22 : decode cX9_init 22 = .ok (.aload_n 0, 1) := by decide +kernel
theorem dn9_23 : decode cX9_init 23 = .ok (.iconst 4, 1) := by decide +kernel
theorem dn9_24 : decode cX9_init 24 = .ok (.newarray .int, 2) := by decide +kernel
theorem dn9_26 : decode cX9_init 26 = .ok (.putfield 20, 3) := by decide +kernel
theorem dn9_29 : decode cX9_init 29 = .ok (.iconst 0, 1) := by decide +kernel
theorem dn9_30 : decode cX9_init 30 = .ok (.istore_n 1, 1) := by decide +kernel
theorem dn9_31 : decode cX9_init 31 = .ok (.iload_n 1, 1) := by decide +kernel
theorem dn9_32 : decode cX9_init 32 = .ok (.iconst 4, 1) := by decide +kernel
theorem dn9_33 : decode cX9_init 33 = .ok (.if_icmp .ge 16, 3) := by decide +kernel
theorem dn9_36 : decode cX9_init 36 = .ok (.aload_n 0, 1) := by decide +kernel
theorem dn9_37 : decode cX9_init 37 = .ok (.getfield 20, 3) := by decide +kernel
theorem dn9_40 : decode cX9_init 40 = .ok (.iload_n 1, 1) := by decide +kernel
theorem dn9_41 : decode cX9_init 41 = .ok (.iconst (-1), 1) := by decide +kernel
theorem dn9_42 : decode cX9_init 42 = .ok (.iastore, 1) := by decide +kernel
theorem dn9_43 : decode cX9_init 43 = .ok (.iinc 1 1, 3) := by decide +kernel
theorem dn9_46 : decode cX9_init 46 = .ok (.goto (-15), 3) := by decide +kernel
theorem dn9_49 : decode cX9_init 49 = .ok (.return_, 1) := by decide +kernel
def Post9 (g : IG) (h0 : Nat) (ws : va_W) : Prop := ∃ (q1 : Nat) (r1 : Nat → Nat) (q2 : Nat) (q3 : Nat), ws = [(h0, .inr (6, [.ref q1, .ref q2, .ref q3])), (q1, .inl (g.2 3, 4, .inr (.inr (.inr (.inr (fun i => if i < 4 then some (r1 i) else none)))))), (r1 0, .inl (g.2 1, 60, .inr (.inl (fun _ => 0)))), (r1 1, .inl (g.2 1, 60, .inr (.inl (fun _ => 0)))), (r1 2, .inl (g.2 1, 60, .inr (.inl (fun _ => 0)))), (r1 3, .inl (g.2 1, 60, .inr (.inl (fun _ => 0)))), (q2, .inl (g.2 0, 4, .inl (fun _ => 0))), (q3, .inl (g.2 0, 4, .inl (upd (upd (upd (upd (fun _ => 0) (0 : Int32).toNatClampNeg (-1 : Int32)) (1 : Int32).toNatClampNeg (-1 : Int32)) (2 : Int32).toNatClampNeg (-1 : Int32)) (3 : Int32).toNatClampNeg (-1 : Int32))))] ++ []
set_option maxRecDepth 100000 in
set_option maxHeartbeats 4000000 in
theorem mi9 : MI yX9_init cX9_init 2 1 7 252 6 [.null, .null, .null] Post9 := MI.of (by decide) rfl (by decide) (by decide) (fun g h0 => by
  show VI _ _ RX9 g _ _ _ 0 0 0 _ _
  refine i_aload_n dn9_0 0 rfl rfl ?_
  refine i_obj dn9_1 wLX9_1 wOI wOC (by decide) (Nat.le_of_ble_eq_true rfl) ?_
  refine i_aload_n dn9_4 0 rfl rfl ?_
  refine i_iconst dn9_5 ki_4 ?_
  refine i_bipush dn9_6 kb_60 ?_
  refine i_mna (N' := 4) (K' := 60) dn9_8 wCX9_11 wA_long (by decide) (by decide) rfl rfl (by decide) (by decide) (by decide) (by decide) fun q1 r1 => ?_
  refine VI.cast (X' := [(h0, .inr (6, [.null, .null, .null])), (q1, .inl (g.2 3, 4, .inr (.inr (.inr (.inr (fun i => if i < 4 then some (r1 i) else none)))))), (r1 0, .inl (g.2 1, 60, .inr (.inl (fun _ => 0)))), (r1 1, .inl (g.2 1, 60, .inr (.inl (fun _ => 0)))), (r1 2, .inl (g.2 1, 60, .inr (.inl (fun _ => 0)))), (r1 3, .inl (g.2 1, 60, .inr (.inl (fun _ => 0))))]) rfl ?_
  refine i_put (i := 0) (j := 0) (X' := [(h0, .inr (6, [.ref q1, .null, .null])), (q1, .inl (g.2 3, 4, .inr (.inr (.inr (.inr (fun i => if i < 4 then some (r1 i) else none)))))), (r1 0, .inl (g.2 1, 60, .inr (.inl (fun _ => 0)))), (r1 1, .inl (g.2 1, 60, .inr (.inl (fun _ => 0)))), (r1 2, .inl (g.2 1, 60, .inr (.inl (fun _ => 0)))), (r1 3, .inl (g.2 1, 60, .inr (.inl (fun _ => 0))))]) dn9_12 cf6 (by decide) fiX9_13 rfl rfl (by decide) rfl rfl (show 0 < 3 by decide) rfl ?_
  refine i_aload_n dn9_15 0 rfl rfl ?_
  refine i_iconst dn9_16 ki_4 ?_
  refine i_newa (ty := .int) (i0 := 0) (N' := 4) (a0 := (4, .inl (fun _ => 0))) dn9_17 wA_int rfl rfl (fun _ _ _ h1 h2 => Option.some.inj (h1.symm.trans h2)) (fun _ => rfl) (by decide) rfl (by decide) (by decide) (by decide) fun q2 => ?_
  refine i_put (i := 0) (j := 1) (X' := [(h0, .inr (6, [.ref q1, .ref q2, .null])), (q1, .inl (g.2 3, 4, .inr (.inr (.inr (.inr (fun i => if i < 4 then some (r1 i) else none)))))), (r1 0, .inl (g.2 1, 60, .inr (.inl (fun _ => 0)))), (r1 1, .inl (g.2 1, 60, .inr (.inl (fun _ => 0)))), (r1 2, .inl (g.2 1, 60, .inr (.inl (fun _ => 0)))), (r1 3, .inl (g.2 1, 60, .inr (.inl (fun _ => 0)))), (q2, .inl (g.2 0, 4, .inl (fun _ => 0)))]) dn9_19 cf6 (by decide) fiX9_16 rfl rfl (by decide) rfl rfl (show 1 < 3 by decide) rfl ?_
  refine i_aload_n dn9_22 0 rfl rfl ?_
  refine i_iconst dn9_23 ki_4 ?_
  refine i_newa (ty := .int) (i0 := 0) (N' := 4) (a0 := (4, .inl (fun _ => 0))) dn9_24 wA_int rfl rfl (fun _ _ _ h1 h2 => Option.some.inj (h1.symm.trans h2)) (fun _ => rfl) (by decide) rfl (by decide) (by decide) (by decide) fun q3 => ?_
  refine i_put (i := 0) (j := 2) (X' := [(h0, .inr (6, [.ref q1, .ref q2, .ref q3])), (q1, .inl (g.2 3, 4, .inr (.inr (.inr (.inr (fun i => if i < 4 then some (r1 i) else none)))))), (r1 0, .inl (g.2 1, 60, .inr (.inl (fun _ => 0)))), (r1 1, .inl (g.2 1, 60, .inr (.inl (fun _ => 0)))), (r1 2, .inl (g.2 1, 60, .inr (.inl (fun _ => 0)))), (r1 3, .inl (g.2 1, 60, .inr (.inl (fun _ => 0)))), (q2, .inl (g.2 0, 4, .inl (fun _ => 0))), (q3, .inl (g.2 0, 4, .inl (fun _ => 0)))]) dn9_26 cf6 (by decide) fiX9_20 rfl rfl (by decide) rfl rfl (show 2 < 3 by decide) rfl ?_
  refine i_iconst dn9_29 ki_0 ?_
  refine i_istore_n (lv' := [(1, .int (0 : Int32)), (0, .ref h0)]) dn9_30 rfl (by decide) rfl ?_
  refine i_iload_n dn9_31 0 rfl rfl ?_
  refine i_iconst dn9_32 ki_4 ?_
  refine i_icmp_geF (tgt := 49) dn9_33 (by decide) (by decide) ?_
  refine i_aload_n dn9_36 1 rfl rfl ?_
  refine i_get (i := 0) (j := 2) (v := .ref q3) dn9_37 cf6 (by decide) fiX9_20 rfl rfl ?_
  refine i_iload_n dn9_40 0 rfl rfl ?_
  refine i_iconst dn9_41 ki_m1 ?_
  refine i_iast (i := 7) (t := 0) (f := (fun _ => 0)) (X' := [(h0, .inr (6, [.ref q1, .ref q2, .ref q3])), (q1, .inl (g.2 3, 4, .inr (.inr (.inr (.inr (fun i => if i < 4 then some (r1 i) else none)))))), (r1 0, .inl (g.2 1, 60, .inr (.inl (fun _ => 0)))), (r1 1, .inl (g.2 1, 60, .inr (.inl (fun _ => 0)))), (r1 2, .inl (g.2 1, 60, .inr (.inl (fun _ => 0)))), (r1 3, .inl (g.2 1, 60, .inr (.inl (fun _ => 0)))), (q2, .inl (g.2 0, 4, .inl (fun _ => 0))), (q3, .inl (g.2 0, 4, .inl (upd (fun _ => 0) (0 : Int32).toNatClampNeg (-1 : Int32))))]) dn9_42 rfl (by unfold vp_in; decide) rfl ?_
  refine i_iinc (lv' := [(1, .int (1 : Int32)), (0, .ref h0)]) dn9_43 0 rfl (by decide) (by decide) rfl ?_
  refine i_goto (tgt := 31) dn9_46 (by decide) ?_
  refine i_iload_n dn9_31 0 rfl rfl ?_
  refine i_iconst dn9_32 ki_4 ?_
  refine i_icmp_geF (tgt := 49) dn9_33 (by decide) (by decide) ?_
  refine i_aload_n dn9_36 1 rfl rfl ?_
  refine i_get (i := 0) (j := 2) (v := .ref q3) dn9_37 cf6 (by decide) fiX9_20 rfl rfl ?_
  refine i_iload_n dn9_40 0 rfl rfl ?_
  refine i_iconst dn9_41 ki_m1 ?_
  refine i_iast (i := 7) (t := 0) (f := (upd (fun _ => 0) (0 : Int32).toNatClampNeg (-1 : Int32))) (X' := [(h0, .inr (6, [.ref q1, .ref q2, .ref q3])), (q1, .inl (g.2 3, 4, .inr (.inr (.inr (.inr (fun i => if i < 4 then some (r1 i) else none)))))), (r1 0, .inl (g.2 1, 60, .inr (.inl (fun _ => 0)))), (r1 1, .inl (g.2 1, 60, .inr (.inl (fun _ => 0)))), (r1 2, .inl (g.2 1, 60, .inr (.inl (fun _ => 0)))), (r1 3, .inl (g.2 1, 60, .inr (.inl (fun _ => 0)))), (q2, .inl (g.2 0, 4, .inl (fun _ => 0))), (q3, .inl (g.2 0, 4, .inl (upd (upd (fun _ => 0) (0 : Int32).toNatClampNeg (-1 : Int32)) (1 : Int32).toNatClampNeg (-1 : Int32))))]) dn9_42 rfl (by unfold vp_in; decide) rfl ?_
  refine i_iinc (lv' := [(1, .int (2 : Int32)), (0, .ref h0)]) dn9_43 0 rfl (by decide) (by decide) rfl ?_
  refine i_goto (tgt := 31) dn9_46 (by decide) ?_
  refine i_iload_n dn9_31 0 rfl rfl ?_
  refine i_iconst dn9_32 ki_4 ?_
  refine i_icmp_geF (tgt := 49) dn9_33 (by decide) (by decide) ?_
  refine i_aload_n dn9_36 1 rfl rfl ?_
  refine i_get (i := 0) (j := 2) (v := .ref q3) dn9_37 cf6 (by decide) fiX9_20 rfl rfl ?_
  refine i_iload_n dn9_40 0 rfl rfl ?_
  refine i_iconst dn9_41 ki_m1 ?_
  refine i_iast (i := 7) (t := 0) (f := (upd (upd (fun _ => 0) (0 : Int32).toNatClampNeg (-1 : Int32)) (1 : Int32).toNatClampNeg (-1 : Int32))) (X' := [(h0, .inr (6, [.ref q1, .ref q2, .ref q3])), (q1, .inl (g.2 3, 4, .inr (.inr (.inr (.inr (fun i => if i < 4 then some (r1 i) else none)))))), (r1 0, .inl (g.2 1, 60, .inr (.inl (fun _ => 0)))), (r1 1, .inl (g.2 1, 60, .inr (.inl (fun _ => 0)))), (r1 2, .inl (g.2 1, 60, .inr (.inl (fun _ => 0)))), (r1 3, .inl (g.2 1, 60, .inr (.inl (fun _ => 0)))), (q2, .inl (g.2 0, 4, .inl (fun _ => 0))), (q3, .inl (g.2 0, 4, .inl (upd (upd (upd (fun _ => 0) (0 : Int32).toNatClampNeg (-1 : Int32)) (1 : Int32).toNatClampNeg (-1 : Int32)) (2 : Int32).toNatClampNeg (-1 : Int32))))]) dn9_42 rfl (by unfold vp_in; decide) rfl ?_
  refine i_iinc (lv' := [(1, .int (3 : Int32)), (0, .ref h0)]) dn9_43 0 rfl (by decide) (by decide) rfl ?_
  refine i_goto (tgt := 31) dn9_46 (by decide) ?_
  refine i_iload_n dn9_31 0 rfl rfl ?_
  refine i_iconst dn9_32 ki_4 ?_
  refine i_icmp_geF (tgt := 49) dn9_33 (by decide) (by decide) ?_
  refine i_aload_n dn9_36 1 rfl rfl ?_
  refine i_get (i := 0) (j := 2) (v := .ref q3) dn9_37 cf6 (by decide) fiX9_20 rfl rfl ?_
  refine i_iload_n dn9_40 0 rfl rfl ?_
  refine i_iconst dn9_41 ki_m1 ?_
  refine i_iast (i := 7) (t := 0) (f := (upd (upd (upd (fun _ => 0) (0 : Int32).toNatClampNeg (-1 : Int32)) (1 : Int32).toNatClampNeg (-1 : Int32)) (2 : Int32).toNatClampNeg (-1 : Int32))) (X' := [(h0, .inr (6, [.ref q1, .ref q2, .ref q3])), (q1, .inl (g.2 3, 4, .inr (.inr (.inr (.inr (fun i => if i < 4 then some (r1 i) else none)))))), (r1 0, .inl (g.2 1, 60, .inr (.inl (fun _ => 0)))), (r1 1, .inl (g.2 1, 60, .inr (.inl (fun _ => 0)))), (r1 2, .inl (g.2 1, 60, .inr (.inl (fun _ => 0)))), (r1 3, .inl (g.2 1, 60, .inr (.inl (fun _ => 0)))), (q2, .inl (g.2 0, 4, .inl (fun _ => 0))), (q3, .inl (g.2 0, 4, .inl (upd (upd (upd (upd (fun _ => 0) (0 : Int32).toNatClampNeg (-1 : Int32)) (1 : Int32).toNatClampNeg (-1 : Int32)) (2 : Int32).toNatClampNeg (-1 : Int32)) (3 : Int32).toNatClampNeg (-1 : Int32))))]) dn9_42 rfl (by unfold vp_in; decide) rfl ?_
  refine i_iinc (lv' := [(1, .int (4 : Int32)), (0, .ref h0)]) dn9_43 0 rfl (by decide) (by decide) rfl ?_
  refine i_goto (tgt := 31) dn9_46 (by decide) ?_
  refine i_iload_n dn9_31 0 rfl rfl ?_
  refine i_iconst dn9_32 ki_4 ?_
  refine i_icmp_geT (tgt := 49) dn9_33 (by decide) (by decide) ?_
  exact i_ret dn9_49 (by decide) (by decide) ⟨q1, r1, q2, q3, rfl⟩)
theorem dn10_0 : decode cX10_init 0 = .ok (.aload_n 0, 1) := by decide +kernel
theorem dn10_1 : decode cX10_init 1 = .ok (.invokespecial 3, 3) := by decide +kernel
theorem dn10_4 : decode cX10_init 4 = .ok (.aload_n 0, 1) := by decide +kernel
theorem dn10_5 : decode cX10_init 5 = .ok (.iconst 0, 1) := by decide +kernel
theorem dn10_6 : decode cX10_init 6 = .ok (.putfield 9, 3) := by decide +kernel
theorem dn10_9 : decode cX10_init 9 = .ok (.aload_n 0, 1) := by decide +kernel
theorem dn10_10 : decode cX10_init 10 = .ok (.iconst 0, 1) := by decide +kernel
theorem dn10_11 : decode cX10_init 11 = .ok (.putfield 15, 3) := by decide +kernel
theorem dn10_14 : decode cX10_init 14 = .ok (.aload_n 0, 1) := by decide +kernel
theorem dn10_15 : decode cX10_init 15 = .ok (.bipush 20, 2) := by decide +kernel
theorem dn10_17 : decode cX10_init 17 = .ok (.newarray .int, 2) := by decide +kernel
theorem dn10_19 : decode cX10_init 19 = .ok (.putfield 18, 3) := by decide +kernel
theorem dn10_22 : decode cX10_init 22 = .ok (.return_, 1) := by decide +kernel
def Post10 (g : IG) (h0 : Nat) (ws : va_W) : Prop := ∃ (q1 : Nat), ws = [(h0, .inr (7, [.int (0 : Int32), .int (0 : Int32), .ref q1])), (q1, .inl (g.2 0, 20, .inl (fun _ => 0)))] ++ []
set_option maxRecDepth 100000 in
set_option maxHeartbeats 4000000 in
theorem mi10 : MI yX10_init cX10_init 1 1 1 20 7 [.int 0, .int 0, .null] Post10 := MI.of (by decide) rfl (by decide) (by decide) (fun g h0 => by
  show VI _ _ RX10 g _ _ _ 0 0 0 _ _
  refine i_aload_n dn10_0 0 rfl rfl ?_
  refine i_obj dn10_1 wLX10_1 wOI wOC (by decide) (Nat.le_of_ble_eq_true rfl) ?_
  refine i_aload_n dn10_4 0 rfl rfl ?_
  refine i_iconst dn10_5 ki_0 ?_
  refine i_put (i := 0) (j := 0) (X' := [(h0, .inr (7, [.int (0 : Int32), .int 0, .null]))]) dn10_6 cf7 (by decide) fiX10_9 rfl rfl (by decide) rfl rfl (show 0 < 3 by decide) rfl ?_
  refine i_aload_n dn10_9 0 rfl rfl ?_
  refine i_iconst dn10_10 ki_0 ?_
  refine i_put (i := 0) (j := 1) (X' := [(h0, .inr (7, [.int (0 : Int32), .int (0 : Int32), .null]))]) dn10_11 cf7 (by decide) fiX10_15 rfl rfl (by decide) rfl rfl (show 1 < 3 by decide) rfl ?_
  refine i_aload_n dn10_14 0 rfl rfl ?_
  refine i_bipush dn10_15 kb_20 ?_
  refine i_newa (ty := .int) (i0 := 0) (N' := 20) (a0 := (20, .inl (fun _ => 0))) dn10_17 wA_int rfl rfl (fun _ _ _ h1 h2 => Option.some.inj (h1.symm.trans h2)) (fun _ => rfl) (by decide) rfl (by decide) (by decide) (by decide) fun q1 => ?_
  refine i_put (i := 0) (j := 2) (X' := [(h0, .inr (7, [.int (0 : Int32), .int (0 : Int32), .ref q1])), (q1, .inl (g.2 0, 20, .inl (fun _ => 0)))]) dn10_19 cf7 (by decide) fiX10_18 rfl rfl (by decide) rfl rfl (show 2 < 3 by decide) rfl ?_
  exact i_ret dn10_22 (by decide) (by decide) ⟨q1, rfl⟩)
theorem dn12_0 : decode cX12_init 0 = .ok (.aload_n 0, 1) := by decide +kernel
theorem dn12_1 : decode cX12_init 1 = .ok (.invokespecial 1, 3) := by decide +kernel
theorem dn12_4 : decode cX12_init 4 = .ok (.aload_n 0, 1) := by decide +kernel
theorem dn12_5 : decode cX12_init 5 = .ok (.lconst 1, 1) := by decide +kernel
theorem dn12_6 : decode cX12_init 6 = .ok (.putfield 7, 3) := by decide +kernel
theorem dn12_9 : decode cX12_init 9 = .ok (.aload_n 0, 1) := by decide +kernel
theorem dn12_10 : decode cX12_init 10 = .ok (.iconst 4, 1) := by decide +kernel
theorem dn12_11 : decode cX12_init 11 = .ok (.newarray .int, 2) := by decide +kernel
theorem dn12_13 : decode cX12_init 13 = .ok (.putfield 13, 3) := by decide +kernel
theorem dn12_16 : decode cX12_init 16 = .ok (.aload_n 0, 1) := by decide +kernel
theorem dn12_17 : decode cX12_init 17 = .ok (.iconst 4, 1) := by decide +kernel
theorem dn12_18 : decode cX12_init 18 = .ok (.newarray .int, 2) := by decide +kernel
theorem dn12_20 : decode cX12_init 20 = .ok (.putfield 17, 3) := by decide +kernel
theorem dn12_23 : decode cX12_init 23 = .ok (.aload_n 0, 1) := by decide +kernel
theorem dn12_24 : decode cX12_init 24 = .ok (.sipush 240, 3) := by decide +kernel
theorem dn12_27 : decode cX12_init 27 = .ok (.newarray .long, 2) := by decide +kernel
theorem dn12_29 : decode cX12_init 29 = .ok (.putfield 20, 3) := by decide +kernel
theorem dn12_32 : decode cX12_init 32 = .ok (.aload_n 0, 1) := by decide +kernel
theorem dn12_33 : decode cX12_init 33 = .ok (.sipush 900, 3) := by decide +kernel
theorem dn12_36 : decode cX12_init 36 = .ok (.newarray .byte, 2) := by decide +kernel
theorem dn12_38 : decode cX12_init 38 = .ok (.putfield 24, 3) := by decide +kernel
theorem dn12_41 : decode cX12_init 41 = .ok (.aload_n 0, 1) := by decide +kernel
theorem dn12_42 : decode cX12_init 42 = .ok (.iconst (-1), 1) := by decide +kernel
theorem dn12_43 : decode cX12_init 43 = .ok (.putfield 28, 3) := by decide +kernel
theorem dn12_46 : decode cX12_init 46 = .ok (.aload_n 0, 1) := by decide +kernel
theorem dn12_47 : decode cX12_init 47 = .ok (.iconst (-1), 1) := by decide +kernel
theorem dn12_48 : decode cX12_init 48 = .ok (.putfield 32, 3) := by decide +kernel
theorem dn12_51 : decode cX12_init 51 = .ok (.aload_n 0, 1) := by decide +kernel
theorem dn12_52 : decode cX12_init 52 = .ok (.sipush 1780, 3) := by decide +kernel
theorem dn12_55 : decode cX12_init 55 = .ok (.newarray .int, 2) := by decide +kernel
theorem dn12_57 : decode cX12_init 57 = .ok (.putfield 35, 3) := by decide +kernel
theorem dn12_60 : decode cX12_init 60 = .ok (.aload_n 0, 1) := by decide +kernel
theorem dn12_61 : decode cX12_init 61 = .ok (.bipush 84, 2) := by decide +kernel
theorem dn12_63 : decode cX12_init 63 = .ok (.newarray .int, 2) := by decide +kernel
theorem dn12_65 : decode cX12_init 65 = .ok (.putfield 38, 3) := by decide +kernel
theorem dn12_68 : decode cX12_init 68 = .ok (.aload_n 0, 1) := by decide +kernel
theorem dn12_69 : decode cX12_init 69 = .ok (.bipush 20, 2) := by decide +kernel
theorem dn12_71 : decode cX12_init 71 = .ok (.newarray .long, 2) := by decide +kernel
theorem dn12_73 : decode cX12_init 73 = .ok (.putfield 41, 3) := by decide +kernel
theorem dn12_76 : decode cX12_init 76 = .ok (.aload_n 0, 1) := by decide +kernel
theorem dn12_77 : decode cX12_init 77 = .ok (.bipush 20, 2) := by decide +kernel
theorem dn12_79 : decode cX12_init 79 = .ok (.newarray .int, 2) := by decide +kernel
theorem dn12_81 : decode cX12_init 81 = .ok (.putfield 44, 3) := by decide +kernel
theorem dn12_84 : decode cX12_init 84 = .ok (.aload_n 0, 1) := by decide +kernel
theorem dn12_85 : decode cX12_init 85 = .ok (.bipush 20, 2) := by decide +kernel
theorem dn12_87 : decode cX12_init 87 = .ok (.newarray .int, 2) := by decide +kernel
theorem dn12_89 : decode cX12_init 89 = .ok (.putfield 47, 3) := by decide +kernel
theorem dn12_92 : decode cX12_init 92 = .ok (.aload_n 0, 1) := by decide +kernel
theorem dn12_93 : decode cX12_init 93 = .ok (.iconst 5, 1) := by decide +kernel
theorem dn12_94 : decode cX12_init 94 = .ok (.newarray .int, 2) := by decide +kernel
theorem dn12_96 : decode cX12_init 96 = .ok (.putfield 50, 3) := by decide +kernel
theorem dn12_99 : decode cX12_init 99 = .ok (.iconst 0, 1) := by decide +kernel
theorem dn12_100 : decode cX12_init 100 = .ok (.istore_n 1, 1) := by decide +kernel
theorem dn12_101 : decode cX12_init 101 = .ok (.iload_n 1, 1) := by decide +kernel
theorem dn12_102 : decode cX12_init 102 = .ok (.iconst 4, 1) := by decide +kernel
theorem dn12_103 : decode cX12_init 103 = .ok (.if_icmp .ge 16, 3) := by decide +kernel
theorem dn12_106 : decode cX12_init 106 = .ok (.aload_n 0, 1) := by decide +kernel
theorem dn12_107 : decode cX12_init 107 = .ok (.getfield 17, 3) := by decide +kernel
theorem dn12_110 : decode cX12_init 110 = .ok (.iload_n 1, 1) := by decide +kernel
theorem dn12_111 : decode cX12_init 111 = .ok (.iconst (-1), 1) := by decide +kernel
theorem dn12_112 : decode cX12_init 112 = .ok (.iastore, 1) := by decide +kernel
theorem dn12_113 : decode cX12_init 113 = .ok (.iinc 1 1, 3) := by decide +kernel
theorem dn12_116 : decode cX12_init 116 = .ok (.goto (-15), 3) := by decide +kernel
theorem dn12_119 : decode cX12_init 119 = .ok (.return_, 1) := by decide +kernel
def Post12 (g : IG) (h0 : Nat) (ws : va_W) : Prop := ∃ (q1 : Nat) (q2 : Nat) (q3 : Nat) (q4 : Nat) (q5 : Nat) (q6 : Nat) (q7 : Nat) (q8 : Nat) (q9 : Nat) (q10 : Nat), ws = [(h0, .inr (9, [.int 0, .int 0, .long 0, .long (1 : Int64), .ref q1, .ref q2, .ref q3, .ref q4, .int 0, .int 0, .int (-1 : Int32), .int (-1 : Int32), .int 0, .int 0, .int 0, .int 0, .int 0, .int 0, .long 0, .ref q5, .ref q6, .int 0, .int 0, .ref q7, .ref q8, .long 0, .int 0, .long 0, .int 0, .int 0, .int 0, .int 0, .int 0, .int 0, .int 0, .ref q9, .ref q10, .int 0, .int 0, .int 0, .int 0, .int 0, .int 0, .int 0, .int 0, .int 0])), (q1, .inl (g.2 0, 4, .inl (fun _ => 0))), (q2, .inl (g.2 0, 4, .inl (upd (upd (upd (upd (fun _ => 0) (0 : Int32).toNatClampNeg (-1 : Int32)) (1 : Int32).toNatClampNeg (-1 : Int32)) (2 : Int32).toNatClampNeg (-1 : Int32)) (3 : Int32).toNatClampNeg (-1 : Int32)))), (q3, .inl (g.2 1, 240, .inr (.inl (fun _ => 0)))), (q4, .inl (g.2 2, 900, .inl (fun _ => 0))), (q5, .inl (g.2 0, 1780, .inl (fun _ => 0))), (q6, .inl (g.2 0, 84, .inl (fun _ => 0))), (q7, .inl (g.2 1, 20, .inr (.inl (fun _ => 0)))), (q8, .inl (g.2 0, 20, .inl (fun _ => 0))), (q9, .inl (g.2 0, 20, .inl (fun _ => 0))), (q10, .inl (g.2 0, 5, .inl (fun _ => 0)))] ++ []
set_option maxRecDepth 100000 in
set_option maxHeartbeats 4000000 in
theorem mi12 : MI yX12_init cX12_init 2 1 10 3077 9 [.int 0, .int 0, .long 0, .long 0, .null, .null, .null, .null, .int 0, .int 0, .int 0, .int 0, .int 0, .int 0, .int 0, .int 0, .int 0, .int 0, .long 0, .null, .null, .int 0, .int 0, .null, .null, .long 0, .int 0, .long 0, .int 0, .int 0, .int 0, .int 0, .int 0, .int 0, .int 0, .null, .null, .int 0, .int 0, .int 0, .int 0, .int 0, .int 0, .int 0, .int 0, .int 0] Post12 := MI.of (by decide) rfl (by decide) (by decide) (fun g h0 => by
  show VI _ _ RX12 g _ _ _ 0 0 0 _ _
  refine i_aload_n dn12_0 0 rfl rfl ?_
  refine i_obj dn12_1 wLX12_1 wOI wOC (by decide) (Nat.le_of_ble_eq_true rfl) ?_
  refine i_aload_n dn12_4 0 rfl rfl ?_
  refine i_lconst dn12_5 kl_1 ?_
  refine i_put (i := 0) (j := 3) (X' := [(h0, .inr (9, [.int 0, .int 0, .long 0, .long (1 : Int64), .null, .null, .null, .null, .int 0, .int 0, .int 0, .int 0, .int 0, .int 0, .int 0, .int 0, .int 0, .int 0, .long 0, .null, .null, .int 0, .int 0, .null, .null, .long 0, .int 0, .long 0, .int 0, .int 0, .int 0, .int 0, .int 0, .int 0, .int 0, .null, .null, .int 0, .int 0, .int 0, .int 0, .int 0, .int 0, .int 0, .int 0, .int 0]))]) dn12_6 cf9 (by decide) fiX12_7 rfl rfl (by decide) rfl rfl (show 3 < 46 by decide) rfl ?_
  refine i_aload_n dn12_9 0 rfl rfl ?_
  refine i_iconst dn12_10 ki_4 ?_
  refine i_newa (ty := .int) (i0 := 0) (N' := 4) (a0 := (4, .inl (fun _ => 0))) dn12_11 wA_int rfl rfl (fun _ _ _ h1 h2 => Option.some.inj (h1.symm.trans h2)) (fun _ => rfl) (by decide) rfl (by decide) (by decide) (by decide) fun q1 => ?_
  refine i_put (i := 0) (j := 4) (X' := [(h0, .inr (9, [.int 0, .int 0, .long 0, .long (1 : Int64), .ref q1, .null, .null, .null, .int 0, .int 0, .int 0, .int 0, .int 0, .int 0, .int 0, .int 0, .int 0, .int 0, .long 0, .null, .null, .int 0, .int 0, .null, .null, .long 0, .int 0, .long 0, .int 0, .int 0, .int 0, .int 0, .int 0, .int 0, .int 0, .null, .null, .int 0, .int 0, .int 0, .int 0, .int 0, .int 0, .int 0, .int 0, .int 0])), (q1, .inl (g.2 0, 4, .inl (fun _ => 0)))]) dn12_13 cf9 (by decide) fiX12_13 rfl rfl (by decide) rfl rfl (show 4 < 46 by decide) rfl ?_
  refine i_aload_n dn12_16 0 rfl rfl ?_
  refine i_iconst dn12_17 ki_4 ?_
  refine i_newa (ty := .int) (i0 := 0) (N' := 4) (a0 := (4, .inl (fun _ => 0))) dn12_18 wA_int rfl rfl (fun _ _ _ h1 h2 => Option.some.inj (h1.symm.trans h2)) (fun _ => rfl) (by decide) rfl (by decide) (by decide) (by decide) fun q2 => ?_
  refine i_put (i := 0) (j := 5) (X' := [(h0, .inr (9, [.int 0, .int 0, .long 0, .long (1 : Int64), .ref q1, .ref q2, .null, .null, .int 0, .int 0, .int 0, .int 0, .int 0, .int 0, .int 0, .int 0, .int 0, .int 0, .long 0, .null, .null, .int 0, .int 0, .null, .null, .long 0, .int 0, .long 0, .int 0, .int 0, .int 0, .int 0, .int 0, .int 0, .int 0, .null, .null, .int 0, .int 0, .int 0, .int 0, .int 0, .int 0, .int 0, .int 0, .int 0])), (q1, .inl (g.2 0, 4, .inl (fun _ => 0))), (q2, .inl (g.2 0, 4, .inl (fun _ => 0)))]) dn12_20 cf9 (by decide) fiX12_17 rfl rfl (by decide) rfl rfl (show 5 < 46 by decide) rfl ?_
  refine i_aload_n dn12_23 0 rfl rfl ?_
  refine i_sipush dn12_24 ks_240 ?_
  refine i_newa (ty := .long) (i0 := 1) (N' := 240) (a0 := (240, .inr (.inl (fun _ => 0)))) dn12_27 wA_long rfl rfl (fun _ _ _ h1 h2 => Option.some.inj (h1.symm.trans h2)) (fun _ => rfl) (by decide) rfl (by decide) (by decide) (by decide) fun q3 => ?_
  refine i_put (i := 0) (j := 6) (X' := [(h0, .inr (9, [.int 0, .int 0, .long 0, .long (1 : Int64), .ref q1, .ref q2, .ref q3, .null, .int 0, .int 0, .int 0, .int 0, .int 0, .int 0, .int 0, .int 0, .int 0, .int 0, .long 0, .null, .null, .int 0, .int 0, .null, .null, .long 0, .int 0, .long 0, .int 0, .int 0, .int 0, .int 0, .int 0, .int 0, .int 0, .null, .null, .int 0, .int 0, .int 0, .int 0, .int 0, .int 0, .int 0, .int 0, .int 0])), (q1, .inl (g.2 0, 4, .inl (fun _ => 0))), (q2, .inl (g.2 0, 4, .inl (fun _ => 0))), (q3, .inl (g.2 1, 240, .inr (.inl (fun _ => 0))))]) dn12_29 cf9 (by decide) fiX12_20 rfl rfl (by decide) rfl rfl (show 6 < 46 by decide) rfl ?_
  refine i_aload_n dn12_32 0 rfl rfl ?_
  refine i_sipush dn12_33 ks_900 ?_
  refine i_newa (ty := .byte) (i0 := 2) (N' := 900) (a0 := (900, .inl (fun _ => 0))) dn12_36 wA_byte rfl rfl (fun _ _ _ h1 h2 => Option.some.inj (h1.symm.trans h2)) (fun _ => rfl) (by decide) rfl (by decide) (by decide) (by decide) fun q4 => ?_
  refine i_put (i := 0) (j := 7) (X' := [(h0, .inr (9, [.int 0, .int 0, .long 0, .long (1 : Int64), .ref q1, .ref q2, .ref q3, .ref q4, .int 0, .int 0, .int 0, .int 0, .int 0, .int 0, .int 0, .int 0, .int 0, .int 0, .long 0, .null, .null, .int 0, .int 0, .null, .null, .long 0, .int 0, .long 0, .int 0, .int 0, .int 0, .int 0, .int 0, .int 0, .int 0, .null, .null, .int 0, .int 0, .int 0, .int 0, .int 0, .int 0, .int 0, .int 0, .int 0])), (q1, .inl (g.2 0, 4, .inl (fun _ => 0))), (q2, .inl (g.2 0, 4, .inl (fun _ => 0))), (q3, .inl (g.2 1, 240, .inr (.inl (fun _ => 0)))), (q4, .inl (g.2 2, 900, .inl (fun _ => 0)))]) dn12_38 cf9 (by decide) fiX12_24 rfl rfl (by decide) rfl rfl (show 7 < 46 by decide) rfl ?_
  refine i_aload_n dn12_41 0 rfl rfl ?_
  refine i_iconst dn12_42 ki_m1 ?_
  refine i_put (i := 0) (j := 10) (X' := [(h0, .inr (9, [.int 0, .int 0, .long 0, .long (1 : Int64), .ref q1, .ref q2, .ref q3, .ref q4, .int 0, .int 0, .int (-1 : Int32), .int 0, .int 0, .int 0, .int 0, .int 0, .int 0, .int 0, .long 0, .null, .null, .int 0, .int 0, .null, .null, .long 0, .int 0, .long 0, .int 0, .int 0, .int 0, .int 0, .int 0, .int 0, .int 0, .null, .null, .int 0, .int 0, .int 0, .int 0, .int 0, .int 0, .int 0, .int 0, .int 0])), (q1, .inl (g.2 0, 4, .inl (fun _ => 0))), (q2, .inl (g.2 0, 4, .inl (fun _ => 0))), (q3, .inl (g.2 1, 240, .inr (.inl (fun _ => 0)))), (q4, .inl (g.2 2, 900, .inl (fun _ => 0)))]) dn12_43 cf9 (by decide) fiX12_28 rfl rfl (by decide) rfl rfl (show 10 < 46 by decide) rfl ?_
  refine i_aload_n dn12_46 0 rfl rfl ?_
  refine i_iconst dn12_47 ki_m1 ?_
  refine i_put (i := 0) (j := 11) (X' := [(h0, .inr (9, [.int 0, .int 0, .long 0, .long (1 : Int64), .ref q1, .ref q2, .ref q3, .ref q4, .int 0, .int 0, .int (-1 : Int32), .int (-1 : Int32), .int 0, .int 0, .int 0, .int 0, .int 0, .int 0, .long 0, .null, .null, .int 0, .int 0, .null, .null, .long 0, .int 0, .long 0, .int 0, .int 0, .int 0, .int 0, .int 0, .int 0, .int 0, .null, .null, .int 0, .int 0, .int 0, .int 0, .int 0, .int 0, .int 0, .int 0, .int 0])), (q1, .inl (g.2 0, 4, .inl (fun _ => 0))), (q2, .inl (g.2 0, 4, .inl (fun _ => 0))), (q3, .inl (g.2 1, 240, .inr (.inl (fun _ => 0)))), (q4, .inl (g.2 2, 900, .inl (fun _ => 0)))]) dn12_48 cf9 (by decide) fiX12_32 rfl rfl (by decide) rfl rfl (show 11 < 46 by decide) rfl ?_
  refine i_aload_n dn12_51 0 rfl rfl ?_
  refine i_sipush dn12_52 ks_1780 ?_
  refine i_newa (ty := .int) (i0 := 0) (N' := 1780) (a0 := (1780, .inl (fun _ => 0))) dn12_55 wA_int rfl rfl (fun _ _ _ h1 h2 => Option.some.inj (h1.symm.trans h2)) (fun _ => rfl) (by decide) rfl (by decide) (by decide) (by decide) fun q5 => ?_
  refine i_put (i := 0) (j := 19) (X' := [(h0, .inr (9, [.int 0, .int 0, .long 0, .long (1 : Int64), .ref q1, .ref q2, .ref q3, .ref q4, .int 0, .int 0, .int (-1 : Int32), .int (-1 : Int32), .int 0, .int 0, .int 0, .int 0, .int 0, .int 0, .long 0, .ref q5, .null, .int 0, .int 0, .null, .null, .long 0, .int 0, .long 0, .int 0, .int 0, .int 0, .int 0, .int 0, .int 0, .int 0, .null, .null, .int 0, .int 0, .int 0, .int 0, .int 0, .int 0, .int 0, .int 0, .int 0])), (q1, .inl (g.2 0, 4, .inl (fun _ => 0))), (q2, .inl (g.2 0, 4, .inl (fun _ => 0))), (q3, .inl (g.2 1, 240, .inr (.inl (fun _ => 0)))), (q4, .inl (g.2 2, 900, .inl (fun _ => 0))), (q5, .inl (g.2 0, 1780, .inl (fun _ => 0)))]) dn12_57 cf9 (by decide) fiX12_35 rfl rfl (by decide) rfl rfl (show 19 < 46 by decide) rfl ?_
  refine i_aload_n dn12_60 0 rfl rfl ?_
  refine i_bipush dn12_61 kb_84 ?_
  refine i_newa (ty := .int) (i0 := 0) (N' := 84) (a0 := (84, .inl (fun _ => 0))) dn12_63 wA_int rfl rfl (fun _ _ _ h1 h2 => Option.some.inj (h1.symm.trans h2)) (fun _ => rfl) (by decide) rfl (by decide) (by decide) (by decide) fun q6 => ?_
  refine i_put (i := 0) (j := 20) (X' := [(h0, .inr (9, [.int 0, .int 0, .long 0, .long (1 : Int64), .ref q1, .ref q2, .ref q3, .ref q4, .int 0, .int 0, .int (-1 : Int32), .int (-1 : Int32), .int 0, .int 0, .int 0, .int 0, .int 0, .int 0, .long 0, .ref q5, .ref q6, .int 0, .int 0, .null, .null, .long 0, .int 0, .long 0, .int 0, .int 0, .int 0, .int 0, .int 0, .int 0, .int 0, .null, .null, .int 0, .int 0, .int 0, .int 0, .int 0, .int 0, .int 0, .int 0, .int 0])), (q1, .inl (g.2 0, 4, .inl (fun _ => 0))), (q2, .inl (g.2 0, 4, .inl (fun _ => 0))), (q3, .inl (g.2 1, 240, .inr (.inl (fun _ => 0)))), (q4, .inl (g.2 2, 900, .inl (fun _ => 0))), (q5, .inl (g.2 0, 1780, .inl (fun _ => 0))), (q6, .inl (g.2 0, 84, .inl (fun _ => 0)))]) dn12_65 cf9 (by decide) fiX12_38 rfl rfl (by decide) rfl rfl (show 20 < 46 by decide) rfl ?_
  refine i_aload_n dn12_68 0 rfl rfl ?_
  refine i_bipush dn12_69 kb_20 ?_
  refine i_newa (ty := .long) (i0 := 1) (N' := 20) (a0 := (20, .inr (.inl (fun _ => 0)))) dn12_71 wA_long rfl rfl (fun _ _ _ h1 h2 => Option.some.inj (h1.symm.trans h2)) (fun _ => rfl) (by decide) rfl (by decide) (by decide) (by decide) fun q7 => ?_
  refine i_put (i := 0) (j := 23) (X' := [(h0, .inr (9, [.int 0, .int 0, .long 0, .long (1 : Int64), .ref q1, .ref q2, .ref q3, .ref q4, .int 0, .int 0, .int (-1 : Int32), .int (-1 : Int32), .int 0, .int 0, .int 0, .int 0, .int 0, .int 0, .long 0, .ref q5, .ref q6, .int 0, .int 0, .ref q7, .null, .long 0, .int 0, .long 0, .int 0, .int 0, .int 0, .int 0, .int 0, .int 0, .int 0, .null, .null, .int 0, .int 0, .int 0, .int 0, .int 0, .int 0, .int 0, .int 0, .int 0])), (q1, .inl (g.2 0, 4, .inl (fun _ => 0))), (q2, .inl (g.2 0, 4, .inl (fun _ => 0))), (q3, .inl (g.2 1, 240, .inr (.inl (fun _ => 0)))), (q4, .inl (g.2 2, 900, .inl (fun _ => 0))), (q5, .inl (g.2 0, 1780, .inl (fun _ => 0))), (q6, .inl (g.2 0, 84, .inl (fun _ => 0))), (q7, .inl (g.2 1, 20, .inr (.inl (fun _ => 0))))]) dn12_73 cf9 (by decide) fiX12_41 rfl rfl (by decide) rfl rfl (show 23 < 46 by decide) rfl ?_
  refine i_aload_n dn12_76 0 rfl rfl ?_
  refine i_bipush dn12_77 kb_20 ?_
  refine i_newa (ty := .int) (i0 := 0) (N' := 20) (a0 := (20, .inl (fun _ => 0))) dn12_79 wA_int rfl rfl (fun _ _ _ h1 h2 => Option.some.inj (h1.symm.trans h2)) (fun _ => rfl) (by decide) rfl (by decide) (by decide) (by decide) fun q8 => ?_
  refine i_put (i := 0) (j := 24) (X' := [(h0, .inr (9, [.int 0, .int 0, .long 0, .long (1 : Int64), .ref q1, .ref q2, .ref q3, .ref q4, .int 0, .int 0, .int (-1 : Int32), .int (-1 : Int32), .int 0, .int 0, .int 0, .int 0, .int 0, .int 0, .long 0, .ref q5, .ref q6, .int 0, .int 0, .ref q7, .ref q8, .long 0, .int 0, .long 0, .int 0, .int 0, .int 0, .int 0, .int 0, .int 0, .int 0, .null, .null, .int 0, .int 0, .int 0, .int 0, .int 0, .int 0, .int 0, .int 0, .int 0])), (q1, .inl (g.2 0, 4, .inl (fun _ => 0))), (q2, .inl (g.2 0, 4, .inl (fun _ => 0))), (q3, .inl (g.2 1, 240, .inr (.inl (fun _ => 0)))), (q4, .inl (g.2 2, 900, .inl (fun _ => 0))), (q5, .inl (g.2 0, 1780, .inl (fun _ => 0))), (q6, .inl (g.2 0, 84, .inl (fun _ => 0))), (q7, .inl (g.2 1, 20, .inr (.inl (fun _ => 0)))), (q8, .inl (g.2 0, 20, .inl (fun _ => 0)))]) dn12_81 cf9 (by decide) fiX12_44 rfl rfl (by decide) rfl rfl (show 24 < 46 by decide) rfl ?_
  refine i_aload_n dn12_84 0 rfl rfl ?_
  refine i_bipush dn12_85 kb_20 ?_
  refine i_newa (ty := .int) (i0 := 0) (N' := 20) (a0 := (20, .inl (fun _ => 0))) dn12_87 wA_int rfl rfl (fun _ _ _ h1 h2 => Option.some.inj (h1.symm.trans h2)) (fun _ => rfl) (by decide) rfl (by decide) (by decide) (by decide) fun q9 => ?_
  refine i_put (i := 0) (j := 35) (X' := [(h0, .inr (9, [.int 0, .int 0, .long 0, .long (1 : Int64), .ref q1, .ref q2, .ref q3, .ref q4, .int 0, .int 0, .int (-1 : Int32), .int (-1 : Int32), .int 0, .int 0, .int 0, .int 0, .int 0, .int 0, .long 0, .ref q5, .ref q6, .int 0, .int 0, .ref q7, .ref q8, .long 0, .int 0, .long 0, .int 0, .int 0, .int 0, .int 0, .int 0, .int 0, .int 0, .ref q9, .null, .int 0, .int 0, .int 0, .int 0, .int 0, .int 0, .int 0, .int 0, .int 0])), (q1, .inl (g.2 0, 4, .inl (fun _ => 0))), (q2, .inl (g.2 0, 4, .inl (fun _ => 0))), (q3, .inl (g.2 1, 240, .inr (.inl (fun _ => 0)))), (q4, .inl (g.2 2, 900, .inl (fun _ => 0))), (q5, .inl (g.2 0, 1780, .inl (fun _ => 0))), (q6, .inl (g.2 0, 84, .inl (fun _ => 0))), (q7, .inl (g.2 1, 20, .inr (.inl (fun _ => 0)))), (q8, .inl (g.2 0, 20, .inl (fun _ => 0))), (q9, .inl (g.2 0, 20, .inl (fun _ => 0)))]) dn12_89 cf9 (by decide) fiX12_47 rfl rfl (by decide) rfl rfl (show 35 < 46 by decide) rfl ?_
  refine i_aload_n dn12_92 0 rfl rfl ?_
  refine i_iconst dn12_93 ki_5 ?_
  refine i_newa (ty := .int) (i0 := 0) (N' := 5) (a0 := (5, .inl (fun _ => 0))) dn12_94 wA_int rfl rfl (fun _ _ _ h1 h2 => Option.some.inj (h1.symm.trans h2)) (fun _ => rfl) (by decide) rfl (by decide) (by decide) (by decide) fun q10 => ?_
  refine i_put (i := 0) (j := 36) (X' := [(h0, .inr (9, [.int 0, .int 0, .long 0, .long (1 : Int64), .ref q1, .ref q2, .ref q3, .ref q4, .int 0, .int 0, .int (-1 : Int32), .int (-1 : Int32), .int 0, .int 0, .int 0, .int 0, .int 0, .int 0, .long 0, .ref q5, .ref q6, .int 0, .int 0, .ref q7, .ref q8, .long 0, .int 0, .long 0, .int 0, .int 0, .int 0, .int 0, .int 0, .int 0, .int 0, .ref q9, .ref q10, .int 0, .int 0, .int 0, .int 0, .int 0, .int 0, .int 0, .int 0, .int 0])), (q1, .inl (g.2 0, 4, .inl (fun _ => 0))), (q2, .inl (g.2 0, 4, .inl (fun _ => 0))), (q3, .inl (g.2 1, 240, .inr (.inl (fun _ => 0)))), (q4, .inl (g.2 2, 900, .inl (fun _ => 0))), (q5, .inl (g.2 0, 1780, .inl (fun _ => 0))), (q6, .inl (g.2 0, 84, .inl (fun _ => 0))), (q7, .inl (g.2 1, 20, .inr (.inl (fun _ => 0)))), (q8, .inl (g.2 0, 20, .inl (fun _ => 0))), (q9, .inl (g.2 0, 20, .inl (fun _ => 0))), (q10, .inl (g.2 0, 5, .inl (fun _ => 0)))]) dn12_96 cf9 (by decide) fiX12_50 rfl rfl (by decide) rfl rfl (show 36 < 46 by decide) rfl ?_
  refine i_iconst dn12_99 ki_0 ?_
  refine i_istore_n (lv' := [(1, .int (0 : Int32)), (0, .ref h0)]) dn12_100 rfl (by decide) rfl ?_
  refine i_iload_n dn12_101 0 rfl rfl ?_
  refine i_iconst dn12_102 ki_4 ?_
  refine i_icmp_geF (tgt := 119) dn12_103 (by decide) (by decide) ?_
  refine i_aload_n dn12_106 1 rfl rfl ?_
  refine i_get (i := 0) (j := 5) (v := .ref q2) dn12_107 cf9 (by decide) fiX12_17 rfl rfl ?_
  refine i_iload_n dn12_110 0 rfl rfl ?_
  refine i_iconst dn12_111 ki_m1 ?_
  refine i_iast (i := 2) (t := 0) (f := (fun _ => 0)) (X' := [(h0, .inr (9, [.int 0, .int 0, .long 0, .long (1 : Int64), .ref q1, .ref q2, .ref q3, .ref q4, .int 0, .int 0, .int (-1 : Int32), .int (-1 : Int32), .int 0, .int 0, .int 0, .int 0, .int 0, .int 0, .long 0, .ref q5, .ref q6, .int 0, .int 0, .ref q7, .ref q8, .long 0, .int 0, .long 0, .int 0, .int 0, .int 0, .int 0, .int 0, .int 0, .int 0, .ref q9, .ref q10, .int 0, .int 0, .int 0, .int 0, .int 0, .int 0, .int 0, .int 0, .int 0])), (q1, .inl (g.2 0, 4, .inl (fun _ => 0))), (q2, .inl (g.2 0, 4, .inl (upd (fun _ => 0) (0 : Int32).toNatClampNeg (-1 : Int32)))), (q3, .inl (g.2 1, 240, .inr (.inl (fun _ => 0)))), (q4, .inl (g.2 2, 900, .inl (fun _ => 0))), (q5, .inl (g.2 0, 1780, .inl (fun _ => 0))), (q6, .inl (g.2 0, 84, .inl (fun _ => 0))), (q7, .inl (g.2 1, 20, .inr (.inl (fun _ => 0)))), (q8, .inl (g.2 0, 20, .inl (fun _ => 0))), (q9, .inl (g.2 0, 20, .inl (fun _ => 0))), (q10, .inl (g.2 0, 5, .inl (fun _ => 0)))]) dn12_112 rfl (by unfold vp_in; decide) rfl ?_
  refine i_iinc (lv' := [(1, .int (1 : Int32)), (0, .ref h0)]) dn12_113 0 rfl (by decide) (by decide) rfl ?_
  refine i_goto (tgt := 101) dn12_116 (by decide) ?_
  refine i_iload_n dn12_101 0 rfl rfl ?_
  refine i_iconst dn12_102 ki_4 ?_
  refine i_icmp_geF (tgt := 119) dn12_103 (by decide) (by decide) ?_
  refine i_aload_n dn12_106 1 rfl rfl ?_
  refine i_get (i := 0) (j := 5) (v := .ref q2) dn12_107 cf9 (by decide) fiX12_17 rfl rfl ?_
  refine i_iload_n dn12_110 0 rfl rfl ?_
  refine i_iconst dn12_111 ki_m1 ?_
  refine i_iast (i := 2) (t := 0) (f := (upd (fun _ => 0) (0 : Int32).toNatClampNeg (-1 : Int32))) (X' := [(h0, .inr (9, [.int 0, .int 0, .long 0, .long (1 : Int64), .ref q1, .ref q2, .ref q3, .ref q4, .int 0, .int 0, .int (-1 : Int32), .int (-1 : Int32), .int 0, .int 0, .int 0, .int 0, .int 0, .int 0, .long 0, .ref q5, .ref q6, .int 0, .int 0, .ref q7, .ref q8, .long 0, .int 0, .long 0, .int 0, .int 0, .int 0, .int 0, .int 0, .int 0, .int 0, .ref q9, .ref q10, .int 0, .int 0, .int 0, .int 0, .int 0, .int 0, .int 0, .int 0, .int 0])), (q1, .inl (g.2 0, 4, .inl (fun _ => 0))), (q2, .inl (g.2 0, 4, .inl (upd (upd (fun _ => 0) (0 : Int32).toNatClampNeg (-1 : Int32)) (1 : Int32).toNatClampNeg (-1 : Int32)))), (q3, .inl (g.2 1, 240, .inr (.inl (fun _ => 0)))), (q4, .inl (g.2 2, 900, .inl (fun _ => 0))), (q5, .inl (g.2 0, 1780, .inl (fun _ => 0))), (q6, .inl (g.2 0, 84, .inl (fun _ => 0))), (q7, .inl (g.2 1, 20, .inr (.inl (fun _ => 0)))), (q8, .inl (g.2 0, 20, .inl (fun _ => 0))), (q9, .inl (g.2 0, 20, .inl (fun _ => 0))), (q10, .inl (g.2 0, 5, .inl (fun _ => 0)))]) dn12_112 rfl (by unfold vp_in; decide) rfl ?_
  refine i_iinc (lv' := [(1, .int (2 : Int32)), (0, .ref h0)]) dn12_113 0 rfl (by decide) (by decide) rfl ?_
  refine i_goto (tgt := 101) dn12_116 (by decide) ?_
  refine i_iload_n dn12_101 0 rfl rfl ?_
  refine i_iconst dn12_102 ki_4 ?_
  refine i_icmp_geF (tgt := 119) dn12_103 (by decide) (by decide) ?_
  refine i_aload_n dn12_106 1 rfl rfl ?_
  refine i_get (i := 0) (j := 5) (v := .ref q2) dn12_107 cf9 (by decide) fiX12_17 rfl rfl ?_
  refine i_iload_n dn12_110 0 rfl rfl ?_
  refine i_iconst dn12_111 ki_m1 ?_
  refine i_iast (i := 2) (t := 0) (f := (upd (upd (fun _ => 0) (0 : Int32).toNatClampNeg (-1 : Int32)) (1 : Int32).toNatClampNeg (-1 : Int32))) (X' := [(h0, .inr (9, [.int 0, .int 0, .long 0, .long (1 : Int64), .ref q1, .ref q2, .ref q3, .ref q4, .int 0, .int 0, .int (-1 : Int32), .int (-1 : Int32), .int 0, .int 0, .int 0, .int 0, .int 0, .int 0, .long 0, .ref q5, .ref q6, .int 0, .int 0, .ref q7, .ref q8, .long 0, .int 0, .long 0, .int 0, .int 0, .int 0, .int 0, .int 0, .int 0, .int 0, .ref q9, .ref q10, .int 0, .int 0, .int 0, .int 0, .int 0, .int 0, .int 0, .int 0, .int 0])), (q1, .inl (g.2 0, 4, .inl (fun _ => 0))), (q2, .inl (g.2 0, 4, .inl (upd (upd (upd (fun _ => 0) (0 : Int32).toNatClampNeg (-1 : Int32)) (1 : Int32).toNatClampNeg (-1 : Int32)) (2 : Int32).toNatClampNeg (-1 : Int32)))), (q3, .inl (g.2 1, 240, .inr (.inl (fun _ => 0)))), (q4, .inl (g.2 2, 900, .inl (fun _ => 0))), (q5, .inl (g.2 0, 1780, .inl (fun _ => 0))), (q6, .inl (g.2 0, 84, .inl (fun _ => 0))), (q7, .inl (g.2 1, 20, .inr (.inl (fun _ => 0)))), (q8, .inl (g.2 0, 20, .inl (fun _ => 0))), (q9, .inl (g.2 0, 20, .inl (fun _ => 0))), (q10, .inl (g.2 0, 5, .inl (fun _ => 0)))]) dn12_112 rfl (by unfold vp_in; decide) rfl ?_
  refine i_iinc (lv' := [(1, .int (3 : Int32)), (0, .ref h0)]) dn12_113 0 rfl (by decide) (by decide) rfl ?_
  refine i_goto (tgt := 101) dn12_116 (by decide) ?_
  refine i_iload_n dn12_101 0 rfl rfl ?_
  refine i_iconst dn12_102 ki_4 ?_
  refine i_icmp_geF (tgt := 119) dn12_103 (by decide) (by decide) ?_
  refine i_aload_n dn12_106 1 rfl rfl ?_
  refine i_get (i := 0) (j := 5) (v := .ref q2) dn12_107 cf9 (by decide) fiX12_17 rfl rfl ?_
  refine i_iload_n dn12_110 0 rfl rfl ?_
  refine i_iconst dn12_111 ki_m1 ?_
  refine i_iast (i := 2) (t := 0) (f := (upd (upd (upd (fun _ => 0) (0 : Int32).toNatClampNeg (-1 : Int32)) (1 : Int32).toNatClampNeg (-1 : Int32)) (2 : Int32).toNatClampNeg (-1 : Int32))) (X' := [(h0, .inr (9, [.int 0, .int 0, .long 0, .long (1 : Int64), .ref q1, .ref q2, .ref q3, .ref q4, .int 0, .int 0, .int (-1 : Int32), .int (-1 : Int32), .int 0, .int 0, .int 0, .int 0, .int 0, .int 0, .long 0, .ref q5, .ref q6, .int 0, .int 0, .ref q7, .ref q8, .long 0, .int 0, .long 0, .int 0, .int 0, .int 0, .int 0, .int 0, .int 0, .int 0, .ref q9, .ref q10, .int 0, .int 0, .int 0, .int 0, .int 0, .int 0, .int 0, .int 0, .int 0])), (q1, .inl (g.2 0, 4, .inl (fun _ => 0))), (q2, .inl (g.2 0, 4, .inl (upd (upd (upd (upd (fun _ => 0) (0 : Int32).toNatClampNeg (-1 : Int32)) (1 : Int32).toNatClampNeg (-1 : Int32)) (2 : Int32).toNatClampNeg (-1 : Int32)) (3 : Int32).toNatClampNeg (-1 : Int32)))), (q3, .inl (g.2 1, 240, .inr (.inl (fun _ => 0)))), (q4, .inl (g.2 2, 900, .inl (fun _ => 0))), (q5, .inl (g.2 0, 1780, .inl (fun _ => 0))), (q6, .inl (g.2 0, 84, .inl (fun _ => 0))), (q7, .inl (g.2 1, 20, .inr (.inl (fun _ => 0)))), (q8, .inl (g.2 0, 20, .inl (fun _ => 0))), (q9, .inl (g.2 0, 20, .inl (fun _ => 0))), (q10, .inl (g.2 0, 5, .inl (fun _ => 0)))]) dn12_112 rfl (by unfold vp_in; decide) rfl ?_
  refine i_iinc (lv' := [(1, .int (4 : Int32)), (0, .ref h0)]) dn12_113 0 rfl (by decide) (by decide) rfl ?_
  refine i_goto (tgt := 101) dn12_116 (by decide) ?_
  refine i_iload_n dn12_101 0 rfl rfl ?_
  refine i_iconst dn12_102 ki_4 ?_
  refine i_icmp_geT (tgt := 119) dn12_103 (by decide) (by decide) ?_
  exact i_ret dn12_119 (by decide) (by decide) ⟨q1, q2, q3, q4, q5, q6, q7, q8, q9, q10, rfl⟩)
theorem dn11_0 : decode cX11_init 0 = .ok (.aload_n 0, 1) := by decide +kernel
theorem dn11_1 : decode cX11_init 1 = .ok (.invokespecial 3, 3) := by decide +kernel
theorem dn11_4 : decode cX11_init 4 = .ok (.aload_n 0, 1) := by decide +kernel
theorem dn11_5 : decode cX11_init 5 = .ok (.new 9, 3) := by decide +kernel
theorem dn11_8 : decode cX11_init 8 = .ok (.dup, 1) := by decide +kernel
theorem dn11_9 : decode cX11_init 9 = .ok (.invokespecial 11, 3) := by decide +kernel
theorem dn11_12 : decode cX11_init 12 = .ok (.putfield 12, 3) := by decide +kernel
theorem dn11_15 : decode cX11_init 15 = .ok (.aload_n 0, 1) := by decide +kernel
theorem dn11_16 : decode cX11_init 16 = .ok (.new 16, 3) := by decide +kernel
theorem dn11_19 : decode cX11_init 19 = .ok (.dup, 1) := by decide +kernel
theorem dn11_20 : decode cX11_init 20 = .ok (.invokespecial 18, 3) := by decide +kernel
theorem dn11_23 : decode cX11_init 23 = .ok (.putfield 19, 3) := by decide +kernel
theorem dn11_26 : decode cX11_init 26 = .ok (.aload_n 0, 1) := by decide +kernel
theorem dn11_27 : decode cX11_init 27 = .ok (.new 23, 3) := by decide +kernel
theorem dn11_30 : decode cX11_init 30 = .ok (.dup, 1) := by decide +kernel
theorem dn11_31 : decode cX11_init 31 = .ok (.invokespecial 25, 3) := by decide +kernel
theorem dn11_34 : decode cX11_init 34 = .ok (.putfield 26, 3) := by decide +kernel
theorem dn11_37 : decode cX11_init 37 = .ok (.aload_n 0, 1) := by decide +kernel
theorem dn11_38 : decode cX11_init 38 = .ok (.new 23, 3) := by decide +kernel
theorem dn11_41 : decode cX11_init 41 = .ok (.dup, 1) := by decide +kernel
theorem dn11_42 : decode cX11_init 42 = .ok (.invokespecial 25, 3) := by decide +kernel
theorem dn11_45 : decode cX11_init 45 = .ok (.putfield 30, 3) := by decide +kernel
theorem dn11_48 : decode cX11_init 48 = .ok (.aload_n 0, 1) := by decide +kernel
theorem dn11_49 : decode cX11_init 49 = .ok (.new 33, 3) := by decide +kernel
theorem dn11_52 : decode cX11_init 52 = .ok (.dup, 1) := by decide +kernel
theorem dn11_53 : decode cX11_init 53 = .ok (.invokespecial 35, 3) := by decide +kernel
theorem dn11_56 : decode cX11_init 56 = .ok (.putfield 36, 3) := by decide +kernel
theorem dn11_59 : decode cX11_init 59 = .ok (.aload_n 0, 1) := by decide +kernel
theorem dn11_60 : decode cX11_init 60 = .ok (.new 33, 3) := by decide +kernel
theorem dn11_63 : decode cX11_init 63 = .ok (.dup, 1) := by decide +kernel
theorem dn11_64 : decode cX11_init 64 = .ok (.invokespecial 35, 3) := by decide +kernel
theorem dn11_67 : decode cX11_init 67 = .ok (.putfield 40, 3) := by decide +kernel
theorem dn11_70 : decode cX11_init 70 = .ok (.aload_n 0, 1) := by decide +kernel
theorem dn11_71 : decode cX11_init 71 = .ok (.iconst 3, 1) := by decide +kernel
theorem dn11_72 : decode cX11_init 72 = .ok (.anewarray 23, 3) := by decide +kernel
theorem dn11_75 : decode cX11_init 75 = .ok (.putfield 43, 3) := by decide +kernel
theorem dn11_78 : decode cX11_init 78 = .ok (.aload_n 0, 1) := by decide +kernel
theorem dn11_79 : decode cX11_init 79 = .ok (.iconst 3, 1) := by decide +kernel
theorem dn11_80 : decode cX11_init 80 = .ok (.anewarray 33, 3) := by decide +kernel
theorem dn11_83 : decode cX11_init 83 = .ok (.putfield 47, 3) := by decide +kernel
theorem dn11_86 : decode cX11_init 86 = .ok (.aload_n 0, 1) := by decide +kernel
theorem dn11_87 : decode cX11_init 87 = .ok (.new 51, 3) := by decide +kernel
theorem dn11_90 : decode cX11_init 90 = .ok (.dup, 1) := by decide +kernel
theorem dn11_91 : decode cX11_init 91 = .ok (.invokespecial 53, 3) := by decide +kernel
theorem dn11_94 : decode cX11_init 94 = .ok (.putfield 54, 3) := by decide +kernel
theorem dn11_97 : decode cX11_init 97 = .ok (.aload_n 0, 1) := by decide +kernel
theorem dn11_98 : decode cX11_init 98 = .ok (.new 58, 3) := by decide +kernel
theorem dn11_101 : decode cX11_init 101 = .ok (.dup, 1) := by decide +kernel
theorem dn11_102 : decode cX11_init 102 = .ok (.invokespecial 60, 3) := by decide +kernel
theorem dn11_105 : decode cX11_init 105 = .ok (.putfield 61, 3) := by decide +kernel
theorem dn11_108 : decode cX11_init 108 = .ok (.aload_n 0, 1) := by decide +kernel
theorem dn11_109 : decode cX11_init 109 = .ok (.new 65, 3) := by decide +kernel
theorem dn11_112 : decode cX11_init 112 = .ok (.dup, 1) := by decide +kernel
theorem dn11_113 : decode cX11_init 113 = .ok (.invokespecial 67, 3) := by decide +kernel
theorem dn11_116 : decode cX11_init 116 = .ok (.putfield 68, 3) := by decide +kernel
theorem dn11_119 : decode cX11_init 119 = .ok (.aload_n 0, 1) := by decide +kernel
theorem dn11_120 : decode cX11_init 120 = .ok (.new 72, 3) := by decide +kernel
theorem dn11_123 : decode cX11_init 123 = .ok (.dup, 1) := by decide +kernel
theorem dn11_124 : decode cX11_init 124 = .ok (.invokespecial 74, 3) := by decide +kernel
theorem dn11_127 : decode cX11_init 127 = .ok (.putfield 75, 3) := by decide +kernel
theorem dn11_130 : decode cX11_init 130 = .ok (.aload_n 0, 1) := by decide +kernel
theorem dn11_131 : decode cX11_init 131 = .ok (.new 72, 3) := by decide +kernel
theorem dn11_134 : decode cX11_init 134 = .ok (.dup, 1) := by decide +kernel
theorem dn11_135 : decode cX11_init 135 = .ok (.invokespecial 74, 3) := by decide +kernel
theorem dn11_138 : decode cX11_init 138 = .ok (.putfield 79, 3) := by decide +kernel
theorem dn11_141 : decode cX11_init 141 = .ok (.aload_n 0, 1) := by decide +kernel
theorem dn11_142 : decode cX11_init 142 = .ok (.iconst 0, 1) := by decide +kernel
theorem dn11_143 : decode cX11_init 143 = .ok (.putfield 82, 3) := by decide +kernel
theorem dn11_146 : decode cX11_init 146 = .ok (.aload_n 0, 1) := by decide +kernel
theorem dn11_147 : decode cX11_init 147 = .ok (.iconst 0, 1) := by decide +kernel
theorem dn11_148 : decode cX11_init 148 = .ok (.putfield 86, 3) := by decide +kernel
theorem dn11_151 : decode cX11_init 151 = .ok (.aload_n 0, 1) := by decide +kernel
theorem dn11_152 : decode cX11_init 152 = .ok (.iconst (-1), 1) := by decide +kernel
theorem dn11_153 : decode cX11_init 153 = .ok (.putfield 90, 3) := by decide +kernel
theorem dn11_156 : decode cX11_init 156 = .ok (.aload_n 0, 1) := by decide +kernel
theorem dn11_157 : decode cX11_init 157 = .ok (.iconst (-1), 1) := by decide +kernel
theorem dn11_158 : decode cX11_init 158 = .ok (.putfield 93, 3) := by decide +kernel
theorem dn11_161 : decode cX11_init 161 = .ok (.aload_n 0, 1) := by decide +kernel
theorem dn11_162 : decode cX11_init 162 = .ok (.iconst 0, 1) := by decide +kernel
theorem dn11_163 : decode cX11_init 163 = .ok (.putfield 96, 3) := by decide +kernel
theorem dn11_166 : decode cX11_init 166 = .ok (.aload_n 0, 1) := by decide +kernel
theorem dn11_167 : decode cX11_init 167 = .ok (.lconst 0, 1) := by decide +kernel
theorem dn11_168 : decode cX11_init 168 = .ok (.putfield 99, 3) := by decide +kernel
theorem dn11_171 : decode cX11_init 171 = .ok (.aload_n 0, 1) := by decide +kernel
theorem dn11_172 : decode cX11_init 172 = .ok (.lconst 1, 1) := by decide +kernel
theorem dn11_173 : decode cX11_init 173 = .ok (.putfield 103, 3) := by decide +kernel
theorem dn11_176 : decode cX11_init 176 = .ok (.iconst 0, 1) := by decide +kernel
theorem dn11_177 : decode cX11_init 177 = .ok (.istore_n 1, 1) := by decide +kernel
theorem dn11_178 : decode cX11_init 178 = .ok (.iload_n 1, 1) := by decide +kernel
theorem dn11_179 : decode cX11_init 179 = .ok (.iconst 3, 1) := by decide +kernel
theorem dn11_180 : decode cX11_init 180 = .ok (.if_icmp .ge 35, 3) := by decide +kernel
theorem dn11_183 : decode cX11_init 183 = .ok (.aload_n 0, 1) := by decide +kernel
theorem dn11_184 : decode cX11_init 184 = .ok (.getfield 43, 3) := by decide +kernel
theorem dn11_187 : decode cX11_init 187 = .ok (.iload_n 1, 1) := by decide +kernel
theorem dn11_188 : decode cX11_init 188 = .ok (.new 23, 3) := by decide +kernel
theorem dn11_191 : decode cX11_init 191 = .ok (.dup, 1) := by decide +kernel
theorem dn11_192 : decode cX11_init 192 = .ok (.invokespecial 25, 3) := by decide +kernel
theorem dn11_195 : decode cX11_init 195 = .ok (.aastore, 1) := by decide +kernel
theorem dn11_196 : decode cX11_init 196 = .ok (.aload_n 0, 1) := by decide +kernel
theorem dn11_197 : decode cX11_init 197 = .ok (.getfield 47, 3) := by decide +kernel
theorem dn11_200 : decode cX11_init 200 = .ok (.iload_n 1, 1) := by decide +kernel
theorem dn11_201 : decode cX11_init 201 = .ok (.new 33, 3) := by decide +kernel
theorem dn11_204 : decode cX11_init 204 = .ok (.dup, 1) := by decide +kernel
theorem dn11_205 : decode cX11_init 205 = .ok (.invokespecial 35, 3) := by decide +kernel
theorem dn11_208 : decode cX11_init 208 = .ok (.aastore, 1) := by decide +kernel
theorem dn11_209 : decode cX11_init 209 = .ok (.iinc 1 1, 3) := by decide +kernel
theorem dn11_212 : decode cX11_init 212 = .ok (.goto (-34), 3) := by decide +kernel
theorem dn11_215 : decode cX11_init 215 = .ok (.return_, 1) := by decide +kernel
def Post11 (g : IG) (h0 : Nat) (ws : va_W) : Prop := ∃ (q7 : Nat) (q8 : Nat) (q1 : Nat) (c1 : va_W) (q2 : Nat) (c2 : va_W) (q3 : Nat) (c3 : va_W) (q4 : Nat) (c4 : va_W) (q5 : Nat) (c5 : va_W) (q6 : Nat) (c6 : va_W) (q9 : Nat) (c9 : va_W) (q10 : Nat) (c10 : va_W) (q11 : Nat) (c11 : va_W) (q12 : Nat) (c12 : va_W) (q13 : Nat) (c13 : va_W) (q14 : Nat) (c14 : va_W) (q15 : Nat) (c15 : va_W) (q16 : Nat) (c16 : va_W) (q17 : Nat) (c17 : va_W) (q18 : Nat) (c18 : va_W) (q19 : Nat) (c19 : va_W), Post9 g q1 c1 ∧ Post8 g q2 c2 ∧ Post0 g q3 c3 ∧ Post0 g q4 c4 ∧ Post5 g q5 c5 ∧ Post5 g q6 c6 ∧ Post4 g q9 c9 ∧ Post10 g q10 c10 ∧ Post7 g q11 c11 ∧ Post2 g q12 c12 ∧ Post2 g q13 c13 ∧ Post0 g q14 c14 ∧ Post5 g q15 c15 ∧ Post0 g q16 c16 ∧ Post5 g q17 c17 ∧ Post0 g q18 c18 ∧ Post5 g q19 c19 ∧ ws = [(h0, .inr (8, [.ref q1, .ref q2, .ref q3, .ref q4, .ref q5, .ref q6, .ref q7, .ref q8, .ref q9, .ref q10, .ref q11, .ref q12, .ref q13, .int (0 : Int32), .int (0 : Int32), .int (-1 : Int32), .int (-1 : Int32), .int (0 : Int32), .long (0 : Int64), .long (1 : Int64)])), (q7, .inl (g.2 4, 3, .inr (.inr (.inr (.inr (va_up (va_up (va_up (fun _ => none) (0 : Int32).toNatClampNeg (some q14)) (1 : Int32).toNatClampNeg (some q16)) (2 : Int32).toNatClampNeg (some q18))))))), (q8, .inl (g.2 5, 3, .inr (.inr (.inr (.inr (va_up (va_up (va_up (fun _ => none) (0 : Int32).toNatClampNeg (some q15)) (1 : Int32).toNatClampNeg (some q17)) (2 : Int32).toNatClampNeg (some q19)))))))] ++ (c19 ++ (c18 ++ (c17 ++ (c16 ++ (c15 ++ (c14 ++ (c13 ++ (c12 ++ (c11 ++ (c10 ++ (c9 ++ (c6 ++ (c5 ++ (c4 ++ (c3 ++ (c2 ++ (c1 ++ ([]))))))))))))))))))
set_option maxRecDepth 100000 in
set_option maxHeartbeats 4000000 in
theorem mi11 : MI yX11_init cX11_init 2 2 101 3605 8 [.null, .null, .null, .null, .null, .null, .null, .null, .null, .null, .null, .null, .null, .int 0, .int 0, .int 0, .int 0, .int 0, .long 0, .long 0] Post11 := MI.of (by decide) rfl (by decide) (by decide) (fun g h0 => by
  show VI _ _ RX11 g _ _ _ 0 0 0 _ _
  refine i_aload_n dn11_0 0 rfl rfl ?_
  refine i_obj dn11_1 wLX11_1 wOI wOC (by decide) (Nat.le_of_ble_eq_true rfl) ?_
  refine i_aload_n dn11_4 0 rfl rfl ?_
  refine i_mk (fs := [.null, .null, .null]) dn11_5 dn11_8 dn11_9 cf6 wCX11_9 wNX9 wIX9 (by decide +kernel) mi9 (Or.inl wMX11_11) wUX9 wDX9 rfl rfl (by refine ⟨by decide, by decide, by decide +kernel⟩) (by decide) (by decide) (Nat.le_of_ble_eq_true rfl) (by decide) (by decide) fun q1 c1 hc1 => ?_
  refine i_put (i := 0) (j := 0) (X' := [(h0, .inr (8, [.ref q1, .null, .null, .null, .null, .null, .null, .null, .null, .null, .null, .null, .null, .int 0, .int 0, .int 0, .int 0, .int 0, .long 0, .long 0]))]) dn11_12 cf8 (by decide) fiX11_12 rfl rfl (by decide) rfl rfl (show 0 < 20 by decide) rfl ?_
  refine i_aload_n dn11_15 0 rfl rfl ?_
  refine i_mk (fs := [.null, .int 0, .int 0, .int 0, .int 0, .int 0, .int 0, .int 0, .int 0]) dn11_16 dn11_19 dn11_20 cf5 wCX11_16 wNX8 wIX8 (by decide +kernel) mi8 (Or.inr (List.mem_of_getElem? (i := 0) rfl)) wUX8 wDX8 rfl rfl (by refine ⟨by decide, by decide, by decide +kernel⟩) (by decide) (by decide) (Nat.le_of_ble_eq_true rfl) (by decide) (by decide) fun q2 c2 hc2 => ?_
  refine i_put (i := 0) (j := 1) (X' := [(h0, .inr (8, [.ref q1, .ref q2, .null, .null, .null, .null, .null, .null, .null, .null, .null, .null, .null, .int 0, .int 0, .int 0, .int 0, .int 0, .long 0, .long 0]))]) dn11_23 cf8 (by decide) fiX11_19 rfl rfl (by decide) rfl rfl (show 1 < 20 by decide) rfl ?_
  refine i_aload_n dn11_26 0 rfl rfl ?_
  refine i_mk (fs := [.null, .null, .null, .null, .null, .int 0, .int 0, .int 0, .int 0, .int 0, .int 0, .int 0, .null, .null]) dn11_27 dn11_30 dn11_31 cf0 wCX11_23 wNX0 wIX0 (by decide +kernel) mi0 (Or.inr (List.mem_of_getElem? (i := 1) rfl)) wUX0 wDX0 rfl rfl (by refine ⟨by decide, by decide, by decide +kernel⟩) (by decide) (by decide) (Nat.le_of_ble_eq_true rfl) (by decide) (by decide) fun q3 c3 hc3 => ?_
  refine i_put (i := 0) (j := 2) (X' := [(h0, .inr (8, [.ref q1, .ref q2, .ref q3, .null, .null, .null, .null, .null, .null, .null, .null, .null, .null, .int 0, .int 0, .int 0, .int 0, .int 0, .long 0, .long 0]))]) dn11_34 cf8 (by decide) fiX11_26 rfl rfl (by decide) rfl rfl (show 2 < 20 by decide) rfl ?_
  refine i_aload_n dn11_37 0 rfl rfl ?_
  refine i_mk (fs := [.null, .null, .null, .null, .null, .int 0, .int 0, .int 0, .int 0, .int 0, .int 0, .int 0, .null, .null]) dn11_38 dn11_41 dn11_42 cf0 wCX11_23 wNX0 wIX0 (by decide +kernel) mi0 (Or.inr (List.mem_of_getElem? (i := 1) rfl)) wUX0 wDX0 rfl rfl (by refine ⟨by decide, by decide, by decide +kernel⟩) (by decide) (by decide) (Nat.le_of_ble_eq_true rfl) (by decide) (by decide) fun q4 c4 hc4 => ?_
  refine i_put (i := 0) (j := 3) (X' := [(h0, .inr (8, [.ref q1, .ref q2, .ref q3, .ref q4, .null, .null, .null, .null, .null, .null, .null, .null, .null, .int 0, .int 0, .int 0, .int 0, .int 0, .long 0, .long 0]))]) dn11_45 cf8 (by decide) fiX11_30 rfl rfl (by decide) rfl rfl (show 3 < 20 by decide) rfl ?_
  refine i_aload_n dn11_48 0 rfl rfl ?_
  refine i_mk (fs := [.int 0, .int 0, .int 0, .null, .null, .null, .null, .null, .int 0, .null]) dn11_49 dn11_52 dn11_53 cf3 wCX11_33 wNX5 wIX5 (by decide +kernel) mi5 (Or.inr (List.mem_of_getElem? (i := 2) rfl)) wUX5 wDX5 rfl rfl (by refine ⟨by decide, by decide, by decide +kernel⟩) (by decide) (by decide) (Nat.le_of_ble_eq_true rfl) (by decide) (by decide) fun q5 c5 hc5 => ?_
  refine i_put (i := 0) (j := 4) (X' := [(h0, .inr (8, [.ref q1, .ref q2, .ref q3, .ref q4, .ref q5, .null, .null, .null, .null, .null, .null, .null, .null, .int 0, .int 0, .int 0, .int 0, .int 0, .long 0, .long 0]))]) dn11_56 cf8 (by decide) fiX11_36 rfl rfl (by decide) rfl rfl (show 4 < 20 by decide) rfl ?_
  refine i_aload_n dn11_59 0 rfl rfl ?_
  refine i_mk (fs := [.int 0, .int 0, .int 0, .null, .null, .null, .null, .null, .int 0, .null]) dn11_60 dn11_63 dn11_64 cf3 wCX11_33 wNX5 wIX5 (by decide +kernel) mi5 (Or.inr (List.mem_of_getElem? (i := 2) rfl)) wUX5 wDX5 rfl rfl (by refine ⟨by decide, by decide, by decide +kernel⟩) (by decide) (by decide) (Nat.le_of_ble_eq_true rfl) (by decide) (by decide) fun q6 c6 hc6 => ?_
  refine i_put (i := 0) (j := 5) (X' := [(h0, .inr (8, [.ref q1, .ref q2, .ref q3, .ref q4, .ref q5, .ref q6, .null, .null, .null, .null, .null, .null, .null, .int 0, .int 0, .int 0, .int 0, .int 0, .long 0, .long 0]))]) dn11_67 cf8 (by decide) fiX11_40 rfl rfl (by decide) rfl rfl (show 5 < 20 by decide) rfl ?_
  refine i_aload_n dn11_70 0 rfl rfl ?_
  refine i_iconst dn11_71 ki_3 ?_
  refine i_newq (i0 := 4) (N' := 3) dn11_72 wCX11_23 (fun _ h => h.2.2.1) rfl (by decide) rfl (by decide) (by decide) (by decide) fun q7 => ?_
  refine i_put (i := 0) (j := 6) (X' := [(h0, .inr (8, [.ref q1, .ref q2, .ref q3, .ref q4, .ref q5, .ref q6, .ref q7, .null, .null, .null, .null, .null, .null, .int 0, .int 0, .int 0, .int 0, .int 0, .long 0, .long 0])), (q7, .inl (g.2 4, 3, .inr (.inr (.inr (.inr (fun _ => none))))))]) dn11_75 cf8 (by decide) fiX11_43 rfl rfl (by decide) rfl rfl (show 6 < 20 by decide) rfl ?_
  refine i_aload_n dn11_78 0 rfl rfl ?_
  refine i_iconst dn11_79 ki_3 ?_
  refine i_newq (i0 := 5) (N' := 3) dn11_80 wCX11_33 (fun _ h => h.2.2.2.1) rfl (by decide) rfl (by decide) (by decide) (by decide) fun q8 => ?_
  refine i_put (i := 0) (j := 7) (X' := [(h0, .inr (8, [.ref q1, .ref q2, .ref q3, .ref q4, .ref q5, .ref q6, .ref q7, .ref q8, .null, .null, .null, .null, .null, .int 0, .int 0, .int 0, .int 0, .int 0, .long 0, .long 0])), (q7, .inl (g.2 4, 3, .inr (.inr (.inr (.inr (fun _ => none)))))), (q8, .inl (g.2 5, 3, .inr (.inr (.inr (.inr (fun _ => none))))))]) dn11_83 cf8 (by decide) fiX11_47 rfl rfl (by decide) rfl rfl (show 7 < 20 by decide) rfl ?_
  refine i_aload_n dn11_86 0 rfl rfl ?_
  refine i_mk (fs := [.int 0, .int 0, .int 0, .int 0, .int 0]) dn11_87 dn11_90 dn11_91 cf2 wCX11_51 wNX4 wIX4 (by decide +kernel) mi4 (Or.inr (List.mem_of_getElem? (i := 3) rfl)) wUX4 wDX4 rfl rfl (by refine ⟨by decide, by decide, by decide +kernel⟩) (by decide) (by decide) (Nat.le_of_ble_eq_true rfl) (by decide) (by decide) fun q9 c9 hc9 => ?_
  refine i_put (i := 0) (j := 8) (X' := [(h0, .inr (8, [.ref q1, .ref q2, .ref q3, .ref q4, .ref q5, .ref q6, .ref q7, .ref q8, .ref q9, .null, .null, .null, .null, .int 0, .int 0, .int 0, .int 0, .int 0, .long 0, .long 0])), (q7, .inl (g.2 4, 3, .inr (.inr (.inr (.inr (fun _ => none)))))), (q8, .inl (g.2 5, 3, .inr (.inr (.inr (.inr (fun _ => none))))))]) dn11_94 cf8 (by decide) fiX11_54 rfl rfl (by decide) rfl rfl (show 8 < 20 by decide) rfl ?_
  refine i_aload_n dn11_97 0 rfl rfl ?_
  refine i_mk (fs := [.int 0, .int 0, .null]) dn11_98 dn11_101 dn11_102 cf7 wCX11_58 wNX10 wIX10 (by decide +kernel) mi10 (Or.inr (List.mem_of_getElem? (i := 4) rfl)) wUX10 wDX10 rfl rfl (by refine ⟨by decide, by decide, by decide +kernel⟩) (by decide) (by decide) (Nat.le_of_ble_eq_true rfl) (by decide) (by decide) fun q10 c10 hc10 => ?_
  refine i_put (i := 0) (j := 9) (X' := [(h0, .inr (8, [.ref q1, .ref q2, .ref q3, .ref q4, .ref q5, .ref q6, .ref q7, .ref q8, .ref q9, .ref q10, .null, .null, .null, .int 0, .int 0, .int 0, .int 0, .int 0, .long 0, .long 0])), (q7, .inl (g.2 4, 3, .inr (.inr (.inr (.inr (fun _ => none)))))), (q8, .inl (g.2 5, 3, .inr (.inr (.inr (.inr (fun _ => none))))))]) dn11_105 cf8 (by decide) fiX11_61 rfl rfl (by decide) rfl rfl (show 9 < 20 by decide) rfl ?_
  refine i_aload_n dn11_108 0 rfl rfl ?_
  refine i_mk (fs := [.null, .null, .null, .null]) dn11_109 dn11_112 dn11_113 cf4 wCX11_65 wNX7 wIX7 (by decide +kernel) mi7 (Or.inr (List.mem_of_getElem? (i := 5) rfl)) wUX7 wDX7 rfl rfl (by refine ⟨by decide, by decide, by decide +kernel⟩) (by decide) (by decide) (Nat.le_of_ble_eq_true rfl) (by decide) (by decide) fun q11 c11 hc11 => ?_
  refine i_put (i := 0) (j := 10) (X' := [(h0, .inr (8, [.ref q1, .ref q2, .ref q3, .ref q4, .ref q5, .ref q6, .ref q7, .ref q8, .ref q9, .ref q10, .ref q11, .null, .null, .int 0, .int 0, .int 0, .int 0, .int 0, .long 0, .long 0])), (q7, .inl (g.2 4, 3, .inr (.inr (.inr (.inr (fun _ => none)))))), (q8, .inl (g.2 5, 3, .inr (.inr (.inr (.inr (fun _ => none))))))]) dn11_116 cf8 (by decide) fiX11_68 rfl rfl (by decide) rfl rfl (show 10 < 20 by decide) rfl ?_
  refine i_aload_n dn11_119 0 rfl rfl ?_
  refine i_mk (fs := [.int 0, .int 0, .int 0, .int 0, .int 0, .int 0, .int 0, .null]) dn11_120 dn11_123 dn11_124 cf1 wCX11_72 wNX2 wIX2 (by decide +kernel) mi2 (Or.inr (List.mem_of_getElem? (i := 6) rfl)) wUX2 wDX2 rfl rfl (by refine ⟨by decide, by decide, by decide +kernel⟩) (by decide) (by decide) (Nat.le_of_ble_eq_true rfl) (by decide) (by decide) fun q12 c12 hc12 => ?_
  refine i_put (i := 0) (j := 11) (X' := [(h0, .inr (8, [.ref q1, .ref q2, .ref q3, .ref q4, .ref q5, .ref q6, .ref q7, .ref q8, .ref q9, .ref q10, .ref q11, .ref q12, .null, .int 0, .int 0, .int 0, .int 0, .int 0, .long 0, .long 0])), (q7, .inl (g.2 4, 3, .inr (.inr (.inr (.inr (fun _ => none)))))), (q8, .inl (g.2 5, 3, .inr (.inr (.inr (.inr (fun _ => none))))))]) dn11_127 cf8 (by decide) fiX11_75 rfl rfl (by decide) rfl rfl (show 11 < 20 by decide) rfl ?_
  refine i_aload_n dn11_130 0 rfl rfl ?_
  refine i_mk (fs := [.int 0, .int 0, .int 0, .int 0, .int 0, .int 0, .int 0, .null]) dn11_131 dn11_134 dn11_135 cf1 wCX11_72 wNX2 wIX2 (by decide +kernel) mi2 (Or.inr (List.mem_of_getElem? (i := 6) rfl)) wUX2 wDX2 rfl rfl (by refine ⟨by decide, by decide, by decide +kernel⟩) (by decide) (by decide) (Nat.le_of_ble_eq_true rfl) (by decide) (by decide) fun q13 c13 hc13 => ?_
  refine i_put (i := 0) (j := 12) (X' := [(h0, .inr (8, [.ref q1, .ref q2, .ref q3, .ref q4, .ref q5, .ref q6, .ref q7, .ref q8, .ref q9, .ref q10, .ref q11, .ref q12, .ref q13, .int 0, .int 0, .int 0, .int 0, .int 0, .long 0, .long 0])), (q7, .inl (g.2 4, 3, .inr (.inr (.inr (.inr (fun _ => none)))))), (q8, .inl (g.2 5, 3, .inr (.inr (.inr (.inr (fun _ => none))))))]) dn11_138 cf8 (by decide) fiX11_79 rfl rfl (by decide) rfl rfl (show 12 < 20 by decide) rfl ?_
  refine i_aload_n dn11_141 0 rfl rfl ?_
  refine i_iconst dn11_142 ki_0 ?_
  refine i_put (i := 0) (j := 13) (X' := [(h0, .inr (8, [.ref q1, .ref q2, .ref q3, .ref q4, .ref q5, .ref q6, .ref q7, .ref q8, .ref q9, .ref q10, .ref q11, .ref q12, .ref q13, .int (0 : Int32), .int 0, .int 0, .int 0, .int 0, .long 0, .long 0])), (q7, .inl (g.2 4, 3, .inr (.inr (.inr (.inr (fun _ => none)))))), (q8, .inl (g.2 5, 3, .inr (.inr (.inr (.inr (fun _ => none))))))]) dn11_143 cf8 (by decide) fiX11_82 rfl rfl (by decide) rfl rfl (show 13 < 20 by decide) rfl ?_
  refine i_aload_n dn11_146 0 rfl rfl ?_
  refine i_iconst dn11_147 ki_0 ?_
  refine i_put (i := 0) (j := 14) (X' := [(h0, .inr (8, [.ref q1, .ref q2, .ref q3, .ref q4, .ref q5, .ref q6, .ref q7, .ref q8, .ref q9, .ref q10, .ref q11, .ref q12, .ref q13, .int (0 : Int32), .int (0 : Int32), .int 0, .int 0, .int 0, .long 0, .long 0])), (q7, .inl (g.2 4, 3, .inr (.inr (.inr (.inr (fun _ => none)))))), (q8, .inl (g.2 5, 3, .inr (.inr (.inr (.inr (fun _ => none))))))]) dn11_148 cf8 (by decide) fiX11_86 rfl rfl (by decide) rfl rfl (show 14 < 20 by decide) rfl ?_
  refine i_aload_n dn11_151 0 rfl rfl ?_
  refine i_iconst dn11_152 ki_m1 ?_
  refine i_put (i := 0) (j := 15) (X' := [(h0, .inr (8, [.ref q1, .ref q2, .ref q3, .ref q4, .ref q5, .ref q6, .ref q7, .ref q8, .ref q9, .ref q10, .ref q11, .ref q12, .ref q13, .int (0 : Int32), .int (0 : Int32), .int (-1 : Int32), .int 0, .int 0, .long 0, .long 0])), (q7, .inl (g.2 4, 3, .inr (.inr (.inr (.inr (fun _ => none)))))), (q8, .inl (g.2 5, 3, .inr (.inr (.inr (.inr (fun _ => none))))))]) dn11_153 cf8 (by decide) fiX11_90 rfl rfl (by decide) rfl rfl (show 15 < 20 by decide) rfl ?_
  refine i_aload_n dn11_156 0 rfl rfl ?_
  refine i_iconst dn11_157 ki_m1 ?_
  refine i_put (i := 0) (j := 16) (X' := [(h0, .inr (8, [.ref q1, .ref q2, .ref q3, .ref q4, .ref q5, .ref q6, .ref q7, .ref q8, .ref q9, .ref q10, .ref q11, .ref q12, .ref q13, .int (0 : Int32), .int (0 : Int32), .int (-1 : Int32), .int (-1 : Int32), .int 0, .long 0, .long 0])), (q7, .inl (g.2 4, 3, .inr (.inr (.inr (.inr (fun _ => none)))))), (q8, .inl (g.2 5, 3, .inr (.inr (.inr (.inr (fun _ => none))))))]) dn11_158 cf8 (by decide) fiX11_93 rfl rfl (by decide) rfl rfl (show 16 < 20 by decide) rfl ?_
  refine i_aload_n dn11_161 0 rfl rfl ?_
  refine i_iconst dn11_162 ki_0 ?_
  refine i_put (i := 0) (j := 17) (X' := [(h0, .inr (8, [.ref q1, .ref q2, .ref q3, .ref q4, .ref q5, .ref q6, .ref q7, .ref q8, .ref q9, .ref q10, .ref q11, .ref q12, .ref q13, .int (0 : Int32), .int (0 : Int32), .int (-1 : Int32), .int (-1 : Int32), .int (0 : Int32), .long 0, .long 0])), (q7, .inl (g.2 4, 3, .inr (.inr (.inr (.inr (fun _ => none)))))), (q8, .inl (g.2 5, 3, .inr (.inr (.inr (.inr (fun _ => none))))))]) dn11_163 cf8 (by decide) fiX11_96 rfl rfl (by decide) rfl rfl (show 17 < 20 by decide) rfl ?_
  refine i_aload_n dn11_166 0 rfl rfl ?_
  refine i_lconst dn11_167 kl_0 ?_
  refine i_put (i := 0) (j := 18) (X' := [(h0, .inr (8, [.ref q1, .ref q2, .ref q3, .ref q4, .ref q5, .ref q6, .ref q7, .ref q8, .ref q9, .ref q10, .ref q11, .ref q12, .ref q13, .int (0 : Int32), .int (0 : Int32), .int (-1 : Int32), .int (-1 : Int32), .int (0 : Int32), .long (0 : Int64), .long 0])), (q7, .inl (g.2 4, 3, .inr (.inr (.inr (.inr (fun _ => none)))))), (q8, .inl (g.2 5, 3, .inr (.inr (.inr (.inr (fun _ => none))))))]) dn11_168 cf8 (by decide) fiX11_99 rfl rfl (by decide) rfl rfl (show 18 < 20 by decide) rfl ?_
  refine i_aload_n dn11_171 0 rfl rfl ?_
  refine i_lconst dn11_172 kl_1 ?_
  refine i_put (i := 0) (j := 19) (X' := [(h0, .inr (8, [.ref q1, .ref q2, .ref q3, .ref q4, .ref q5, .ref q6, .ref q7, .ref q8, .ref q9, .ref q10, .ref q11, .ref q12, .ref q13, .int (0 : Int32), .int (0 : Int32), .int (-1 : Int32), .int (-1 : Int32), .int (0 : Int32), .long (0 : Int64), .long (1 : Int64)])), (q7, .inl (g.2 4, 3, .inr (.inr (.inr (.inr (fun _ => none)))))), (q8, .inl (g.2 5, 3, .inr (.inr (.inr (.inr (fun _ => none))))))]) dn11_173 cf8 (by decide) fiX11_103 rfl rfl (by decide) rfl rfl (show 19 < 20 by decide) rfl ?_
  refine i_iconst dn11_176 ki_0 ?_
  refine i_istore_n (lv' := [(1, .int (0 : Int32)), (0, .ref h0)]) dn11_177 rfl (by decide) rfl ?_
  refine i_iload_n dn11_178 0 rfl rfl ?_
  refine i_iconst dn11_179 ki_3 ?_
  refine i_icmp_geF (tgt := 215) dn11_180 (by decide) (by decide) ?_
  refine i_aload_n dn11_183 1 rfl rfl ?_
  refine i_get (i := 0) (j := 6) (v := .ref q7) dn11_184 cf8 (by decide) fiX11_43 rfl rfl ?_
  refine i_iload_n dn11_187 0 rfl rfl ?_
  refine i_mk (fs := [.null, .null, .null, .null, .null, .int 0, .int 0, .int 0, .int 0, .int 0, .int 0, .int 0, .null, .null]) dn11_188 dn11_191 dn11_192 cf0 wCX11_23 wNX0 wIX0 (by decide +kernel) mi0 (Or.inr (List.mem_of_getElem? (i := 1) rfl)) wUX0 wDX0 rfl rfl (by refine ⟨by decide, by decide, by decide +kernel⟩) (by decide) (by decide) (Nat.le_of_ble_eq_true rfl) (by decide) (by decide) fun q14 c14 hc14 => ?_
  obtain ⟨vsq14, hmq14⟩ := post0_head hc14
  refine i_aast (i := 1) (i0 := 4) (f := (fun _ => none)) (X' := [(h0, .inr (8, [.ref q1, .ref q2, .ref q3, .ref q4, .ref q5, .ref q6, .ref q7, .ref q8, .ref q9, .ref q10, .ref q11, .ref q12, .ref q13, .int (0 : Int32), .int (0 : Int32), .int (-1 : Int32), .int (-1 : Int32), .int (0 : Int32), .long (0 : Int64), .long (1 : Int64)])), (q7, .inl (g.2 4, 3, .inr (.inr (.inr (.inr (va_up (fun _ => none) (0 : Int32).toNatClampNeg (some q14))))))), (q8, .inl (g.2 5, 3, .inr (.inr (.inr (.inr (fun _ => none))))))]) dn11_195 cf0.1 rfl rfl (List.mem_append_left _ hmq14) (by unfold vp_in; decide) rfl ?_
  refine i_aload_n dn11_196 1 rfl rfl ?_
  refine i_get (i := 0) (j := 7) (v := .ref q8) dn11_197 cf8 (by decide) fiX11_47 rfl rfl ?_
  refine i_iload_n dn11_200 0 rfl rfl ?_
  refine i_mk (fs := [.int 0, .int 0, .int 0, .null, .null, .null, .null, .null, .int 0, .null]) dn11_201 dn11_204 dn11_205 cf3 wCX11_33 wNX5 wIX5 (by decide +kernel) mi5 (Or.inr (List.mem_of_getElem? (i := 2) rfl)) wUX5 wDX5 rfl rfl (by refine ⟨by decide, by decide, by decide +kernel⟩) (by decide) (by decide) (Nat.le_of_ble_eq_true rfl) (by decide) (by decide) fun q15 c15 hc15 => ?_
  obtain ⟨vsq15, hmq15⟩ := post5_head hc15
  refine i_aast (i := 2) (i0 := 5) (f := (fun _ => none)) (X' := [(h0, .inr (8, [.ref q1, .ref q2, .ref q3, .ref q4, .ref q5, .ref q6, .ref q7, .ref q8, .ref q9, .ref q10, .ref q11, .ref q12, .ref q13, .int (0 : Int32), .int (0 : Int32), .int (-1 : Int32), .int (-1 : Int32), .int (0 : Int32), .long (0 : Int64), .long (1 : Int64)])), (q7, .inl (g.2 4, 3, .inr (.inr (.inr (.inr (va_up (fun _ => none) (0 : Int32).toNatClampNeg (some q14))))))), (q8, .inl (g.2 5, 3, .inr (.inr (.inr (.inr (va_up (fun _ => none) (0 : Int32).toNatClampNeg (some q15)))))))]) dn11_208 cf3.1 rfl rfl (List.mem_append_left _ hmq15) (by unfold vp_in; decide) rfl ?_
  refine i_iinc (lv' := [(1, .int (1 : Int32)), (0, .ref h0)]) dn11_209 0 rfl (by decide) (by decide) rfl ?_
  refine i_goto (tgt := 178) dn11_212 (by decide) ?_
  refine i_iload_n dn11_178 0 rfl rfl ?_
  refine i_iconst dn11_179 ki_3 ?_
  refine i_icmp_geF (tgt := 215) dn11_180 (by decide) (by decide) ?_
  refine i_aload_n dn11_183 1 rfl rfl ?_
  refine i_get (i := 0) (j := 6) (v := .ref q7) dn11_184 cf8 (by decide) fiX11_43 rfl rfl ?_
  refine i_iload_n dn11_187 0 rfl rfl ?_
  refine i_mk (fs := [.null, .null, .null, .null, .null, .int 0, .int 0, .int 0, .int 0, .int 0, .int 0, .int 0, .null, .null]) dn11_188 dn11_191 dn11_192 cf0 wCX11_23 wNX0 wIX0 (by decide +kernel) mi0 (Or.inr (List.mem_of_getElem? (i := 1) rfl)) wUX0 wDX0 rfl rfl (by refine ⟨by decide, by decide, by decide +kernel⟩) (by decide) (by decide) (Nat.le_of_ble_eq_true rfl) (by decide) (by decide) fun q16 c16 hc16 => ?_
  obtain ⟨vsq16, hmq16⟩ := post0_head hc16
  refine i_aast (i := 1) (i0 := 4) (f := (va_up (fun _ => none) (0 : Int32).toNatClampNeg (some q14))) (X' := [(h0, .inr (8, [.ref q1, .ref q2, .ref q3, .ref q4, .ref q5, .ref q6, .ref q7, .ref q8, .ref q9, .ref q10, .ref q11, .ref q12, .ref q13, .int (0 : Int32), .int (0 : Int32), .int (-1 : Int32), .int (-1 : Int32), .int (0 : Int32), .long (0 : Int64), .long (1 : Int64)])), (q7, .inl (g.2 4, 3, .inr (.inr (.inr (.inr (va_up (va_up (fun _ => none) (0 : Int32).toNatClampNeg (some q14)) (1 : Int32).toNatClampNeg (some q16))))))), (q8, .inl (g.2 5, 3, .inr (.inr (.inr (.inr (va_up (fun _ => none) (0 : Int32).toNatClampNeg (some q15)))))))]) dn11_195 cf0.1 rfl rfl (List.mem_append_left _ hmq16) (by unfold vp_in; decide) rfl ?_
  refine i_aload_n dn11_196 1 rfl rfl ?_
  refine i_get (i := 0) (j := 7) (v := .ref q8) dn11_197 cf8 (by decide) fiX11_47 rfl rfl ?_
  refine i_iload_n dn11_200 0 rfl rfl ?_
  refine i_mk (fs := [.int 0, .int 0, .int 0, .null, .null, .null, .null, .null, .int 0, .null]) dn11_201 dn11_204 dn11_205 cf3 wCX11_33 wNX5 wIX5 (by decide +kernel) mi5 (Or.inr (List.mem_of_getElem? (i := 2) rfl)) wUX5 wDX5 rfl rfl (by refine ⟨by decide, by decide, by decide +kernel⟩) (by decide) (by decide) (Nat.le_of_ble_eq_true rfl) (by decide) (by decide) fun q17 c17 hc17 => ?_
  obtain ⟨vsq17, hmq17⟩ := post5_head hc17
  refine i_aast (i := 2) (i0 := 5) (f := (va_up (fun _ => none) (0 : Int32).toNatClampNeg (some q15))) (X' := [(h0, .inr (8, [.ref q1, .ref q2, .ref q3, .ref q4, .ref q5, .ref q6, .ref q7, .ref q8, .ref q9, .ref q10, .ref q11, .ref q12, .ref q13, .int (0 : Int32), .int (0 : Int32), .int (-1 : Int32), .int (-1 : Int32), .int (0 : Int32), .long (0 : Int64), .long (1 : Int64)])), (q7, .inl (g.2 4, 3, .inr (.inr (.inr (.inr (va_up (va_up (fun _ => none) (0 : Int32).toNatClampNeg (some q14)) (1 : Int32).toNatClampNeg (some q16))))))), (q8, .inl (g.2 5, 3, .inr (.inr (.inr (.inr (va_up (va_up (fun _ => none) (0 : Int32).toNatClampNeg (some q15)) (1 : Int32).toNatClampNeg (some q17)))))))]) dn11_208 cf3.1 rfl rfl (List.mem_append_left _ hmq17) (by unfold vp_in; decide) rfl ?_
  refine i_iinc (lv' := [(1, .int (2 : Int32)), (0, .ref h0)]) dn11_209 0 rfl (by decide) (by decide) rfl ?_
  refine i_goto (tgt := 178) dn11_212 (by decide) ?_
  refine i_iload_n dn11_178 0 rfl rfl ?_
  refine i_iconst dn11_179 ki_3 ?_
  refine i_icmp_geF (tgt := 215) dn11_180 (by decide) (by decide) ?_
  refine i_aload_n dn11_183 1 rfl rfl ?_
  refine i_get (i := 0) (j := 6) (v := .ref q7) dn11_184 cf8 (by decide) fiX11_43 rfl rfl ?_
  refine i_iload_n dn11_187 0 rfl rfl ?_
  refine i_mk (fs := [.null, .null, .null, .null, .null, .int 0, .int 0, .int 0, .int 0, .int 0, .int 0, .int 0, .null, .null]) dn11_188 dn11_191 dn11_192 cf0 wCX11_23 wNX0 wIX0 (by decide +kernel) mi0 (Or.inr (List.mem_of_getElem? (i := 1) rfl)) wUX0 wDX0 rfl rfl (by refine ⟨by decide, by decide, by decide +kernel⟩) (by decide) (by decide) (Nat.le_of_ble_eq_true rfl) (by decide) (by decide) fun q18 c18 hc18 => ?_
  obtain ⟨vsq18, hmq18⟩ := post0_head hc18
  refine i_aast (i := 1) (i0 := 4) (f := (va_up (va_up (fun _ => none) (0 : Int32).toNatClampNeg (some q14)) (1 : Int32).toNatClampNeg (some q16))) (X' := [(h0, .inr (8, [.ref q1, .ref q2, .ref q3, .ref q4, .ref q5, .ref q6, .ref q7, .ref q8, .ref q9, .ref q10, .ref q11, .ref q12, .ref q13, .int (0 : Int32), .int (0 : Int32), .int (-1 : Int32), .int (-1 : Int32), .int (0 : Int32), .long (0 : Int64), .long (1 : Int64)])), (q7, .inl (g.2 4, 3, .inr (.inr (.inr (.inr (va_up (va_up (va_up (fun _ => none) (0 : Int32).toNatClampNeg (some q14)) (1 : Int32).toNatClampNeg (some q16)) (2 : Int32).toNatClampNeg (some q18))))))), (q8, .inl (g.2 5, 3, .inr (.inr (.inr (.inr (va_up (va_up (fun _ => none) (0 : Int32).toNatClampNeg (some q15)) (1 : Int32).toNatClampNeg (some q17)))))))]) dn11_195 cf0.1 rfl rfl (List.mem_append_left _ hmq18) (by unfold vp_in; decide) rfl ?_
  refine i_aload_n dn11_196 1 rfl rfl ?_
  refine i_get (i := 0) (j := 7) (v := .ref q8) dn11_197 cf8 (by decide) fiX11_47 rfl rfl ?_
  refine i_iload_n dn11_200 0 rfl rfl ?_
  refine i_mk (fs := [.int 0, .int 0, .int 0, .null, .null, .null, .null, .null, .int 0, .null]) dn11_201 dn11_204 dn11_205 cf3 wCX11_33 wNX5 wIX5 (by decide +kernel) mi5 (Or.inr (List.mem_of_getElem? (i := 2) rfl)) wUX5 wDX5 rfl rfl (by refine ⟨by decide, by decide, by decide +kernel⟩) (by decide) (by decide) (Nat.le_of_ble_eq_true rfl) (by decide) (by decide) fun q19 c19 hc19 => ?_
  obtain ⟨vsq19, hmq19⟩ := post5_head hc19
  refine i_aast (i := 2) (i0 := 5) (f := (va_up (va_up (fun _ => none) (0 : Int32).toNatClampNeg (some q15)) (1 : Int32).toNatClampNeg (some q17))) (X' := [(h0, .inr (8, [.ref q1, .ref q2, .ref q3, .ref q4, .ref q5, .ref q6, .ref q7, .ref q8, .ref q9, .ref q10, .ref q11, .ref q12, .ref q13, .int (0 : Int32), .int (0 : Int32), .int (-1 : Int32), .int (-1 : Int32), .int (0 : Int32), .long (0 : Int64), .long (1 : Int64)])), (q7, .inl (g.2 4, 3, .inr (.inr (.inr (.inr (va_up (va_up (va_up (fun _ => none) (0 : Int32).toNatClampNeg (some q14)) (1 : Int32).toNatClampNeg (some q16)) (2 : Int32).toNatClampNeg (some q18))))))), (q8, .inl (g.2 5, 3, .inr (.inr (.inr (.inr (va_up (va_up (va_up (fun _ => none) (0 : Int32).toNatClampNeg (some q15)) (1 : Int32).toNatClampNeg (some q17)) (2 : Int32).toNatClampNeg (some q19)))))))]) dn11_208 cf3.1 rfl rfl (List.mem_append_left _ hmq19) (by unfold vp_in; decide) rfl ?_
  refine i_iinc (lv' := [(1, .int (3 : Int32)), (0, .ref h0)]) dn11_209 0 rfl (by decide) (by decide) rfl ?_
  refine i_goto (tgt := 178) dn11_212 (by decide) ?_
  refine i_iload_n dn11_178 0 rfl rfl ?_
  refine i_iconst dn11_179 ki_3 ?_
  refine i_icmp_geT (tgt := 215) dn11_180 (by decide) (by decide) ?_
  exact i_ret dn11_215 (by decide) (by decide) ⟨q7, q8, q1, c1, q2, c2, q3, c3, q4, c4, q5, c5, q6, c6, q9, c9, q10, c10, q11, c11, q12, c12, q13, c13, q14, c14, q15, c15, q16, c16, q17, c17, q18, c18, q19, c19, hc1, hc2, hc3, hc4, hc5, hc6, hc9, hc10, hc11, hc12, hc13, hc14, hc15, hc16, hc17, hc18, hc19, rfl⟩)
