def am_dec (me : am_ME) : Bool := match me with
  | (_, _, code, _, _, _, _, _, ins, _) => ins.all fun e => decide (decode code e.1 = .ok e.2) && am_ln e.2.1 e.2.2
def am_dcf (code : ByteArray) : (Nat × Instr × Nat) → Bool := fun e => decide (decode code e.1 = .ok e.2) && am_ln e.2.1 e.2.2
set_option maxRecDepth 1000000 in
theorem am_d0 : am_dec me_0 = true := by decide +kernel
set_option maxRecDepth 1000000 in
theorem am_d1 : am_dec me_1 = true := by decide +kernel
set_option maxRecDepth 1000000 in
theorem am_d2 : am_dec me_2 = true := by decide +kernel
set_option maxRecDepth 1000000 in
theorem am_d3 : am_dec me_3 = true := by decide +kernel
set_option maxRecDepth 1000000 in
theorem am_d4 : am_dec me_4 = true := by decide +kernel
set_option maxRecDepth 1000000 in
theorem am_d5 : am_dec me_5 = true := by decide +kernel
set_option maxRecDepth 1000000 in
theorem am_d6 : am_dec me_6 = true := by decide +kernel
set_option maxRecDepth 1000000 in
theorem am_d7 : am_dec me_7 = true := by decide +kernel
set_option maxRecDepth 1000000 in
theorem am_d8 : am_dec me_8 = true := by decide +kernel
set_option maxRecDepth 1000000 in
theorem am_d9 : am_dec me_9 = true := by decide +kernel
set_option maxRecDepth 1000000 in
theorem am_d10 : am_dec me_10 = true := by decide +kernel
set_option maxRecDepth 1000000 in
theorem am_d11 : am_dec me_11 = true := by decide +kernel
set_option maxRecDepth 1000000 in
theorem am_d12 : am_dec me_12 = true := by decide +kernel
set_option maxRecDepth 1000000 in
theorem am_d13 : am_dec me_13 = true := by decide +kernel
set_option maxRecDepth 1000000 in
theorem am_d14 : am_dec me_14 = true := by decide +kernel
set_option maxRecDepth 1000000 in
theorem am_d15 : am_dec me_15 = true := by decide +kernel
set_option maxRecDepth 1000000 in
theorem am_d16 : am_dec me_16 = true := by decide +kernel
set_option maxRecDepth 1000000 in
theorem am_d17 : am_dec me_17 = true := by decide +kernel
set_option maxRecDepth 1000000 in
theorem am_d18 : am_dec me_18 = true := by decide +kernel
set_option maxRecDepth 1000000 in
theorem am_d19 : am_dec me_19 = true := by decide +kernel
set_option maxRecDepth 1000000 in
theorem am_d20 : am_dec me_20 = true := by decide +kernel
set_option maxRecDepth 1000000 in
theorem am_d21 : am_dec me_21 = true := by decide +kernel
set_option maxRecDepth 1000000 in
theorem am_d22 : am_dec me_22 = true := by decide +kernel
set_option maxRecDepth 1000000 in
theorem am_d23 : am_dec me_23 = true := by decide +kernel
set_option maxRecDepth 1000000 in
theorem am_d24 : am_dec me_24 = true := by decide +kernel
set_option maxRecDepth 1000000 in
theorem am_d25 : am_dec me_25 = true := by decide +kernel
set_option maxRecDepth 1000000 in
theorem am_d26 : am_dec me_26 = true := by decide +kernel
set_option maxRecDepth 1000000 in
theorem am_d27 : am_dec me_27 = true := by decide +kernel
set_option maxRecDepth 1000000 in
theorem am_d28 : am_dec me_28 = true := by decide +kernel
set_option maxRecDepth 1000000 in
theorem am_d29 : am_dec me_29 = true := by decide +kernel
set_option maxRecDepth 1000000 in
theorem am_d30 : am_dec me_30 = true := by decide +kernel
set_option maxRecDepth 1000000 in
theorem am_d31 : am_dec me_31 = true := by decide +kernel
set_option maxRecDepth 1000000 in
theorem am_d32 : am_dec me_32 = true := by decide +kernel
set_option maxRecDepth 1000000 in
theorem am_d33 : am_dec me_33 = true := by decide +kernel
set_option maxRecDepth 1000000 in
theorem am_d34 : am_dec me_34 = true := by decide +kernel
set_option maxRecDepth 1000000 in
theorem am_d35 : am_dec me_35 = true := by decide +kernel
set_option maxRecDepth 1000000 in
theorem am_d36 : am_dec me_36 = true := by decide +kernel
set_option maxRecDepth 1000000 in
theorem am_d37 : am_dec me_37 = true := by decide +kernel
set_option maxRecDepth 1000000 in
theorem am_d38 : am_dec me_38 = true := by decide +kernel
set_option maxRecDepth 1000000 in
theorem am_d39 : am_dec me_39 = true := by decide +kernel
set_option maxRecDepth 1000000 in
theorem am_d40 : am_dec me_40 = true := by decide +kernel
set_option maxRecDepth 1000000 in
theorem am_d41 : am_dec me_41 = true := by decide +kernel
set_option maxRecDepth 1000000 in
theorem am_d42 : am_dec me_42 = true := by decide +kernel
set_option maxRecDepth 1000000 in
theorem am_d43 : am_dec me_43 = true := by decide +kernel
set_option maxRecDepth 1000000 in
theorem am_d44 : am_dec me_44 = true := by decide +kernel
set_option maxRecDepth 1000000 in
theorem am_d45 : am_dec me_45 = true := by decide +kernel
set_option maxRecDepth 1000000 in
theorem am_d46 : am_dec me_46 = true := by decide +kernel
set_option maxRecDepth 1000000 in
theorem am_d47 : am_dec me_47 = true := by decide +kernel
set_option maxRecDepth 1000000 in
theorem am_d48 : am_dec me_48 = true := by decide +kernel
set_option maxRecDepth 1000000 in
theorem am_d49 : am_dec me_49 = true := by decide +kernel
set_option maxRecDepth 1000000 in
theorem am_d50 : am_dec me_50 = true := by decide +kernel
set_option maxRecDepth 1000000 in
theorem am_d51 : am_dec me_51 = true := by decide +kernel
set_option maxRecDepth 1000000 in
theorem am_d52 : am_dec me_52 = true := by decide +kernel
set_option maxRecDepth 1000000 in
theorem am_d53 : am_dec me_53 = true := by decide +kernel
set_option maxRecDepth 1000000 in
theorem am_d54 : am_dec me_54 = true := by decide +kernel
set_option maxRecDepth 1000000 in
theorem am_d55 : am_dec me_55 = true := by decide +kernel
set_option maxRecDepth 1000000 in
theorem am_d56 : am_dec me_56 = true := by decide +kernel
set_option maxRecDepth 1000000 in
theorem am_d57 : am_dec me_57 = true := by decide +kernel
set_option maxRecDepth 1000000 in
theorem am_d58 : am_dec me_58 = true := by decide +kernel
set_option maxRecDepth 1000000 in
theorem am_d59 : am_dec me_59 = true := by decide +kernel
set_option maxRecDepth 1000000 in
theorem am_d60 : am_dec me_60 = true := by decide +kernel
set_option maxRecDepth 1000000 in
theorem am_d61 : am_dec me_61 = true := by decide +kernel
set_option maxRecDepth 1000000 in
theorem am_d62 : am_dec me_62 = true := by decide +kernel
set_option maxRecDepth 1000000 in
theorem am_d63 : am_dec me_63 = true := by decide +kernel
set_option maxRecDepth 1000000 in
theorem am_d64 : am_dec me_64 = true := by decide +kernel
set_option maxRecDepth 1000000 in
theorem am_d65 : am_dec me_65 = true := by decide +kernel
set_option maxRecDepth 1000000 in
theorem am_d66 : am_dec me_66 = true := by decide +kernel
set_option maxRecDepth 1000000 in
theorem am_d67 : am_dec me_67 = true := by decide +kernel
set_option maxRecDepth 1000000 in
theorem am_d68 : am_dec me_68 = true := by decide +kernel
set_option maxRecDepth 1000000 in
theorem am_d69 : am_dec me_69 = true := by decide +kernel
set_option maxRecDepth 1000000 in
theorem am_d70 : am_dec me_70 = true := by decide +kernel
set_option maxRecDepth 1000000 in
theorem am_d71 : am_dec me_71 = true := by decide +kernel
set_option maxRecDepth 1000000 in
theorem am_d72 : am_dec me_72 = true := by decide +kernel
set_option maxRecDepth 1000000 in
theorem am_d73 : am_dec me_73 = true := by decide +kernel
set_option maxRecDepth 1000000 in
theorem am_d74 : am_dec me_74 = true := by decide +kernel
set_option maxRecDepth 1000000 in
theorem am_d75 : am_dec me_75 = true := by decide +kernel
set_option maxRecDepth 1000000 in
theorem am_d76 : am_dec me_76 = true := by decide +kernel
set_option maxRecDepth 1000000 in
theorem am_d77 : am_dec me_77 = true := by decide +kernel
set_option maxRecDepth 1000000 in
theorem am_d78 : am_dec me_78 = true := by decide +kernel
set_option maxRecDepth 1000000 in
theorem am_d79 : am_dec me_79 = true := by decide +kernel
set_option maxRecDepth 1000000 in
theorem am_d80 : am_dec me_80 = true := by decide +kernel
set_option maxRecDepth 1000000 in
theorem am_d81 : am_dec me_81 = true := by decide +kernel
set_option maxRecDepth 1000000 in
theorem am_d82 : am_dec me_82 = true := by decide +kernel
set_option maxRecDepth 1000000 in
theorem am_d83 : am_dec me_83 = true := by decide +kernel
set_option maxRecDepth 1000000 in
theorem am_d84 : am_dec me_84 = true := by decide +kernel
set_option maxRecDepth 1000000 in
theorem am_d85 : am_dec me_85 = true := by decide +kernel
set_option maxRecDepth 1000000 in
theorem am_d86 : am_dec me_86 = true := by decide +kernel
set_option maxRecDepth 1000000 in
theorem am_d87 : am_dec me_87 = true := by decide +kernel
set_option maxRecDepth 1000000 in
theorem am_d88 : am_dec me_88 = true := by decide +kernel
set_option maxRecDepth 1000000 in
theorem am_d89 : am_dec me_89 = true := by decide +kernel
set_option maxRecDepth 1000000 in
theorem am_d90 : am_dec me_90 = true := by decide +kernel
set_option maxRecDepth 1000000 in
theorem am_d91 : am_dec me_91 = true := by decide +kernel
set_option maxRecDepth 1000000 in
theorem am_d92 : am_dec me_92 = true := by decide +kernel
set_option maxRecDepth 1000000 in
theorem am_d93 : am_dec me_93 = true := by decide +kernel
set_option maxRecDepth 1000000 in
theorem am_d94 : am_dec me_94 = true := by decide +kernel
set_option maxRecDepth 1000000 in
theorem am_d95 : am_dec me_95 = true := by decide +kernel
set_option maxRecDepth 1000000 in
theorem am_d96 : am_dec me_96 = true := by decide +kernel
set_option maxRecDepth 1000000 in
theorem am_d97 : am_dec me_97 = true := by decide +kernel
set_option maxRecDepth 1000000 in
theorem am_d98 : am_dec me_98 = true := by decide +kernel
set_option maxRecDepth 1000000 in
theorem am_d99 : am_dec me_99 = true := by decide +kernel
set_option maxRecDepth 1000000 in
theorem am_d100 : am_dec me_100 = true := by decide +kernel
set_option maxRecDepth 1000000 in
theorem am_d101 : am_dec me_101 = true := by decide +kernel
set_option maxRecDepth 1000000 in
theorem am_d102 : am_dec me_102 = true := by decide +kernel
set_option maxRecDepth 1000000 in
theorem am_d103 : am_dec me_103 = true := by decide +kernel
set_option maxRecDepth 1000000 in
theorem am_d104 : am_dec me_104 = true := by decide +kernel
set_option maxRecDepth 1000000 in
theorem am_d105 : am_dec me_105 = true := by decide +kernel
set_option maxRecDepth 1000000 in
theorem am_d106 : am_dec me_106 = true := by decide +kernel
set_option maxRecDepth 1000000 in
theorem am_d107 : am_dec me_107 = true := by decide +kernel
set_option maxRecDepth 1000000 in
theorem am_d108 : am_dec me_108 = true := by decide +kernel
set_option maxRecDepth 1000000 in
theorem am_d109 : am_dec me_109 = true := by decide +kernel
