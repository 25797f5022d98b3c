set_option maxHeartbeats 4000000 in
set_option maxRecDepth 100000 in
theorem c_X9_init {l : Launch} (hl : l.stackTraces = false) {h hh : zH} (hC : CT 4 hh h) : zC l MX9_init [zR (some 99)] h (fun o h' => o = .inl none ∧ MM S0 hh h') := by
  refine zC_of hl rfl rfl (by decide) rfl rfl (Nat.le_of_ble_eq_true rfl) ?_
  refine e_aload_n dX9_init_0 rfl rfl ?_
  refine e_objInit dX9_init_1 mlX9_1 tw_oiI tw_oiC (by decide) (by decide) ?_
  refine e_aload_n dX9_init_4 rfl rfl ?_
  refine e_iconst dX9_init_5 ?_
  refine e_newa 104 0 4 dX9_init_6 (by decide) rfl tw_arrInt rfl (by decide) (by decide) (hC.2.2.1 4 (by decide) (by decide)) (by decide) (by decide) ?_
  refine e_putR dX9_init_8 flX9_7 (Or.inr ⟨rfl, rfl, rfl⟩) rfl (CT_k hC (by decide)) ?_
  have hC := CT_s hC (n := 4) (kd := 100 + 0) (len := 4) (by decide) (by decide) rfl rfl
  have hx : sr (nw h 104 (100 + 0) 4) 1004 99 (some 104) = sr (nw h (100 + 4) (100 + 0) 4) (1000 + 4) 99 (some (100 + 4)) := rfl
  refine e_heq hx ?_
  generalize sr (nw h (100 + 4) (100 + 0) 4) (1000 + 4) 99 (some (100 + 4)) = h at hC ⊢
  refine e_aload_n dX9_init_11 rfl rfl ?_
  refine e_bipush dX9_init_12 (by decide) ?_
  refine e_newa 105 0 24 dX9_init_14 (by decide) rfl tw_arrInt rfl (by decide) (by decide) (hC.2.2.1 5 (by decide) (by decide)) (by decide) (by decide) ?_
  refine e_putR dX9_init_16 flX9_13 (Or.inr ⟨rfl, rfl, rfl⟩) rfl (CT_k hC (by decide)) ?_
  have hC := CT_s hC (n := 5) (kd := 100 + 0) (len := 24) (by decide) (by decide) rfl rfl
  have hx : sr (nw h 105 (100 + 0) 24) 1005 99 (some 105) = sr (nw h (100 + 5) (100 + 0) 24) (1000 + 5) 99 (some (100 + 5)) := rfl
  refine e_heq hx ?_
  generalize sr (nw h (100 + 5) (100 + 0) 24) (1000 + 5) 99 (some (100 + 5)) = h at hC ⊢
  refine e_aload_n dX9_init_19 rfl rfl ?_
  refine e_bipush dX9_init_20 (by decide) ?_
  refine e_newa 106 0 24 dX9_init_22 (by decide) rfl tw_arrInt rfl (by decide) (by decide) (hC.2.2.1 6 (by decide) (by decide)) (by decide) (by decide) ?_
  refine e_putR dX9_init_24 flX9_16 (Or.inr ⟨rfl, rfl, rfl⟩) rfl (CT_k hC (by decide)) ?_
  have hC := CT_s hC (n := 6) (kd := 100 + 0) (len := 24) (by decide) (by decide) rfl rfl
  have hx : sr (nw h 106 (100 + 0) 24) 1006 99 (some 106) = sr (nw h (100 + 6) (100 + 0) 24) (1000 + 6) 99 (some (100 + 6)) := rfl
  refine e_heq hx ?_
  generalize sr (nw h (100 + 6) (100 + 0) 24) (1000 + 6) 99 (some (100 + 6)) = h at hC ⊢
  refine e_aload_n dX9_init_27 rfl rfl ?_
  refine e_bipush dX9_init_28 (by decide) ?_
  refine e_newa 107 0 24 dX9_init_30 (by decide) rfl tw_arrInt rfl (by decide) (by decide) (hC.2.2.1 7 (by decide) (by decide)) (by decide) (by decide) ?_
  refine e_putR dX9_init_32 flX9_19 (Or.inr ⟨rfl, rfl, rfl⟩) rfl (CT_k hC (by decide)) ?_
  have hC := CT_s hC (n := 7) (kd := 100 + 0) (len := 24) (by decide) (by decide) rfl rfl
  have hx : sr (nw h 107 (100 + 0) 24) 1007 99 (some 107) = sr (nw h (100 + 7) (100 + 0) 24) (1000 + 7) 99 (some (100 + 7)) := rfl
  refine e_heq hx ?_
  generalize sr (nw h (100 + 7) (100 + 0) 24) (1000 + 7) 99 (some (100 + 7)) = h at hC ⊢
  refine e_aload_n dX9_init_35 rfl rfl ?_
  refine e_bipush dX9_init_36 (by decide) ?_
  refine e_newa 108 0 24 dX9_init_38 (by decide) rfl tw_arrInt rfl (by decide) (by decide) (hC.2.2.1 8 (by decide) (by decide)) (by decide) (by decide) ?_
  refine e_putR dX9_init_40 flX9_22 (Or.inr ⟨rfl, rfl, rfl⟩) rfl (CT_k hC (by decide)) ?_
  have hC := CT_s hC (n := 8) (kd := 100 + 0) (len := 24) (by decide) (by decide) rfl rfl
  have hx : sr (nw h 108 (100 + 0) 24) 1008 99 (some 108) = sr (nw h (100 + 8) (100 + 0) 24) (1000 + 8) 99 (some (100 + 8)) := rfl
  refine e_heq hx ?_
  generalize sr (nw h (100 + 8) (100 + 0) 24) (1000 + 8) 99 (some (100 + 8)) = h at hC ⊢
  refine e_aload_n dX9_init_43 rfl rfl ?_
  refine e_bipush dX9_init_44 (by decide) ?_
  refine e_newa 109 0 24 dX9_init_46 (by decide) rfl tw_arrInt rfl (by decide) (by decide) (hC.2.2.1 9 (by decide) (by decide)) (by decide) (by decide) ?_
  refine e_putR dX9_init_48 flX9_25 (Or.inr ⟨rfl, rfl, rfl⟩) rfl (CT_k hC (by decide)) ?_
  have hC := CT_s hC (n := 9) (kd := 100 + 0) (len := 24) (by decide) (by decide) rfl rfl
  have hx : sr (nw h 109 (100 + 0) 24) 1009 99 (some 109) = sr (nw h (100 + 9) (100 + 0) 24) (1000 + 9) 99 (some (100 + 9)) := rfl
  refine e_heq hx ?_
  generalize sr (nw h (100 + 9) (100 + 0) 24) (1000 + 9) 99 (some (100 + 9)) = h at hC ⊢
  refine e_aload_n dX9_init_51 rfl rfl ?_
  refine e_bipush dX9_init_52 (by decide) ?_
  refine e_newa 110 1 24 dX9_init_54 (by decide) rfl tw_arrBool rfl (by decide) (by decide) (hC.2.2.1 10 (by decide) (by decide)) (by decide) (by decide) ?_
  refine e_putR dX9_init_56 flX9_28 (Or.inr ⟨rfl, rfl, rfl⟩) rfl (CT_k hC (by decide)) ?_
  have hC := CT_s hC (n := 10) (kd := 100 + 1) (len := 24) (by decide) (by decide) rfl rfl
  have hx : sr (nw h 110 (100 + 1) 24) 1010 99 (some 110) = sr (nw h (100 + 10) (100 + 1) 24) (1000 + 10) 99 (some (100 + 10)) := rfl
  refine e_heq hx ?_
  generalize sr (nw h (100 + 10) (100 + 1) 24) (1000 + 10) 99 (some (100 + 10)) = h at hC ⊢
  refine e_aload_n dX9_init_59 rfl rfl ?_
  refine e_bipush dX9_init_60 (by decide) ?_
  refine e_newa 111 1 24 dX9_init_62 (by decide) rfl tw_arrBool rfl (by decide) (by decide) (hC.2.2.1 11 (by decide) (by decide)) (by decide) (by decide) ?_
  refine e_putR dX9_init_64 flX9_32 (Or.inr ⟨rfl, rfl, rfl⟩) rfl (CT_k hC (by decide)) ?_
  have hC := CT_s hC (n := 11) (kd := 100 + 1) (len := 24) (by decide) (by decide) rfl rfl
  have hx : sr (nw h 111 (100 + 1) 24) 1011 99 (some 111) = sr (nw h (100 + 11) (100 + 1) 24) (1000 + 11) 99 (some (100 + 11)) := rfl
  refine e_heq hx ?_
  generalize sr (nw h (100 + 11) (100 + 1) 24) (1000 + 11) 99 (some (100 + 11)) = h at hC ⊢
  refine e_aload_n dX9_init_67 rfl rfl ?_
  refine e_bipush dX9_init_68 (by decide) ?_
  refine e_newa 112 1 24 dX9_init_70 (by decide) rfl tw_arrBool rfl (by decide) (by decide) (hC.2.2.1 12 (by decide) (by decide)) (by decide) (by decide) ?_
  refine e_putR dX9_init_72 flX9_35 (Or.inr ⟨rfl, rfl, rfl⟩) rfl (CT_k hC (by decide)) ?_
  have hC := CT_s hC (n := 12) (kd := 100 + 1) (len := 24) (by decide) (by decide) rfl rfl
  have hx : sr (nw h 112 (100 + 1) 24) 1012 99 (some 112) = sr (nw h (100 + 12) (100 + 1) 24) (1000 + 12) 99 (some (100 + 12)) := rfl
  refine e_heq hx ?_
  generalize sr (nw h (100 + 12) (100 + 1) 24) (1000 + 12) 99 (some (100 + 12)) = h at hC ⊢
  refine e_aload_n dX9_init_75 rfl rfl ?_
  refine e_bipush dX9_init_76 (by decide) ?_
  refine e_newa 113 1 24 dX9_init_78 (by decide) rfl tw_arrBool rfl (by decide) (by decide) (hC.2.2.1 13 (by decide) (by decide)) (by decide) (by decide) ?_
  refine e_putR dX9_init_80 flX9_38 (Or.inr ⟨rfl, rfl, rfl⟩) rfl (CT_k hC (by decide)) ?_
  have hC := CT_s hC (n := 13) (kd := 100 + 1) (len := 24) (by decide) (by decide) rfl rfl
  have hx : sr (nw h 113 (100 + 1) 24) 1013 99 (some 113) = sr (nw h (100 + 13) (100 + 1) 24) (1000 + 13) 99 (some (100 + 13)) := rfl
  refine e_heq hx ?_
  generalize sr (nw h (100 + 13) (100 + 1) 24) (1000 + 13) 99 (some (100 + 13)) = h at hC ⊢
  refine e_aload_n dX9_init_83 rfl rfl ?_
  refine e_sipush dX9_init_84 (by decide) ?_
  refine e_newa 114 0 2304 dX9_init_87 (by decide) rfl tw_arrInt rfl (by decide) (by decide) (hC.2.2.1 14 (by decide) (by decide)) (by decide) (by decide) ?_
  refine e_putR dX9_init_89 flX9_41 (Or.inr ⟨rfl, rfl, rfl⟩) rfl (CT_k hC (by decide)) ?_
  have hC := CT_s hC (n := 14) (kd := 100 + 0) (len := 2304) (by decide) (by decide) rfl rfl
  have hx : sr (nw h 114 (100 + 0) 2304) 1014 99 (some 114) = sr (nw h (100 + 14) (100 + 0) 2304) (1000 + 14) 99 (some (100 + 14)) := rfl
  refine e_heq hx ?_
  generalize sr (nw h (100 + 14) (100 + 0) 2304) (1000 + 14) 99 (some (100 + 14)) = h at hC ⊢
  refine e_aload_n dX9_init_92 rfl rfl ?_
  refine e_bipush dX9_init_93 (by decide) ?_
  refine e_newa 115 0 24 dX9_init_95 (by decide) rfl tw_arrInt rfl (by decide) (by decide) (hC.2.2.1 15 (by decide) (by decide)) (by decide) (by decide) ?_
  refine e_putR dX9_init_97 flX9_44 (Or.inr ⟨rfl, rfl, rfl⟩) rfl (CT_k hC (by decide)) ?_
  have hC := CT_s hC (n := 15) (kd := 100 + 0) (len := 24) (by decide) (by decide) rfl rfl
  have hx : sr (nw h 115 (100 + 0) 24) 1015 99 (some 115) = sr (nw h (100 + 15) (100 + 0) 24) (1000 + 15) 99 (some (100 + 15)) := rfl
  refine e_heq hx ?_
  generalize sr (nw h (100 + 15) (100 + 0) 24) (1000 + 15) 99 (some (100 + 15)) = h at hC ⊢
  refine e_aload_n dX9_init_100 rfl rfl ?_
  refine e_iconst dX9_init_101 ?_
  refine e_newa 116 0 4 dX9_init_102 (by decide) rfl tw_arrInt rfl (by decide) (by decide) (hC.2.2.1 16 (by decide) (by decide)) (by decide) (by decide) ?_
  refine e_putR dX9_init_104 flX9_47 (Or.inr ⟨rfl, rfl, rfl⟩) rfl (CT_k hC (by decide)) ?_
  have hC := CT_s hC (n := 16) (kd := 100 + 0) (len := 4) (by decide) (by decide) rfl rfl
  have hx : sr (nw h 116 (100 + 0) 4) 1016 99 (some 116) = sr (nw h (100 + 16) (100 + 0) 4) (1000 + 16) 99 (some (100 + 16)) := rfl
  refine e_heq hx ?_
  generalize sr (nw h (100 + 16) (100 + 0) 4) (1000 + 16) 99 (some (100 + 16)) = h at hC ⊢
  refine e_aload_n dX9_init_107 rfl rfl ?_
  refine e_iconst dX9_init_108 ?_
  refine e_newa 117 0 4 dX9_init_109 (by decide) rfl tw_arrInt rfl (by decide) (by decide) (hC.2.2.1 17 (by decide) (by decide)) (by decide) (by decide) ?_
  refine e_putR dX9_init_111 flX9_50 (Or.inr ⟨rfl, rfl, rfl⟩) rfl (CT_k hC (by decide)) ?_
  have hC := CT_s hC (n := 17) (kd := 100 + 0) (len := 4) (by decide) (by decide) rfl rfl
  have hx : sr (nw h 117 (100 + 0) 4) 1017 99 (some 117) = sr (nw h (100 + 17) (100 + 0) 4) (1000 + 17) 99 (some (100 + 17)) := rfl
  refine e_heq hx ?_
  generalize sr (nw h (100 + 17) (100 + 0) 4) (1000 + 17) 99 (some (100 + 17)) = h at hC ⊢
  refine e_aload_n dX9_init_114 rfl rfl ?_
  refine e_bipush dX9_init_115 (by decide) ?_
  refine e_newa 118 0 80 dX9_init_117 (by decide) rfl tw_arrInt rfl (by decide) (by decide) (hC.2.2.1 18 (by decide) (by decide)) (by decide) (by decide) ?_
  refine e_putR dX9_init_119 flX9_53 (Or.inr ⟨rfl, rfl, rfl⟩) rfl (CT_k hC (by decide)) ?_
  have hC := CT_s hC (n := 18) (kd := 100 + 0) (len := 80) (by decide) (by decide) rfl rfl
  have hx : sr (nw h 118 (100 + 0) 80) 1018 99 (some 118) = sr (nw h (100 + 18) (100 + 0) 80) (1000 + 18) 99 (some (100 + 18)) := rfl
  refine e_heq hx ?_
  generalize sr (nw h (100 + 18) (100 + 0) 80) (1000 + 18) 99 (some (100 + 18)) = h at hC ⊢
  refine e_aload_n dX9_init_122 rfl rfl ?_
  refine e_bipush dX9_init_123 (by decide) ?_
  refine e_newa 119 0 80 dX9_init_125 (by decide) rfl tw_arrInt rfl (by decide) (by decide) (hC.2.2.1 19 (by decide) (by decide)) (by decide) (by decide) ?_
  refine e_putR dX9_init_127 flX9_56 (Or.inr ⟨rfl, rfl, rfl⟩) rfl (CT_k hC (by decide)) ?_
  have hC := CT_s hC (n := 19) (kd := 100 + 0) (len := 80) (by decide) (by decide) rfl rfl
  have hx : sr (nw h 119 (100 + 0) 80) 1019 99 (some 119) = sr (nw h (100 + 19) (100 + 0) 80) (1000 + 19) 99 (some (100 + 19)) := rfl
  refine e_heq hx ?_
  generalize sr (nw h (100 + 19) (100 + 0) 80) (1000 + 19) 99 (some (100 + 19)) = h at hC ⊢
  refine e_aload_n dX9_init_130 rfl rfl ?_
  refine e_bipush dX9_init_131 (by decide) ?_
  refine e_newa 120 0 80 dX9_init_133 (by decide) rfl tw_arrInt rfl (by decide) (by decide) (hC.2.2.1 20 (by decide) (by decide)) (by decide) (by decide) ?_
  refine e_putR dX9_init_135 flX9_59 (Or.inr ⟨rfl, rfl, rfl⟩) rfl (CT_k hC (by decide)) ?_
  have hC := CT_s hC (n := 20) (kd := 100 + 0) (len := 80) (by decide) (by decide) rfl rfl
  have hx : sr (nw h 120 (100 + 0) 80) 1020 99 (some 120) = sr (nw h (100 + 20) (100 + 0) 80) (1000 + 20) 99 (some (100 + 20)) := rfl
  refine e_heq hx ?_
  generalize sr (nw h (100 + 20) (100 + 0) 80) (1000 + 20) 99 (some (100 + 20)) = h at hC ⊢
  refine e_aload_n dX9_init_138 rfl rfl ?_
  refine e_bipush dX9_init_139 (by decide) ?_
  refine e_newa 121 0 80 dX9_init_141 (by decide) rfl tw_arrInt rfl (by decide) (by decide) (hC.2.2.1 21 (by decide) (by decide)) (by decide) (by decide) ?_
  refine e_putR dX9_init_143 flX9_62 (Or.inr ⟨rfl, rfl, rfl⟩) rfl (CT_k hC (by decide)) ?_
  have hC := CT_s hC (n := 21) (kd := 100 + 0) (len := 80) (by decide) (by decide) rfl rfl
  have hx : sr (nw h 121 (100 + 0) 80) 1021 99 (some 121) = sr (nw h (100 + 21) (100 + 0) 80) (1000 + 21) 99 (some (100 + 21)) := rfl
  refine e_heq hx ?_
  generalize sr (nw h (100 + 21) (100 + 0) 80) (1000 + 21) 99 (some (100 + 21)) = h at hC ⊢
  refine e_aload_n dX9_init_146 rfl rfl ?_
  refine e_iconst dX9_init_147 ?_
  refine e_newa 122 0 4 dX9_init_148 (by decide) rfl tw_arrInt rfl (by decide) (by decide) (hC.2.2.1 22 (by decide) (by decide)) (by decide) (by decide) ?_
  refine e_putR dX9_init_150 flX9_65 (Or.inr ⟨rfl, rfl, rfl⟩) rfl (CT_k hC (by decide)) ?_
  have hC := CT_s hC (n := 22) (kd := 100 + 0) (len := 4) (by decide) (by decide) rfl rfl
  have hx : sr (nw h 122 (100 + 0) 4) 1022 99 (some 122) = sr (nw h (100 + 22) (100 + 0) 4) (1000 + 22) 99 (some (100 + 22)) := rfl
  refine e_heq hx ?_
  generalize sr (nw h (100 + 22) (100 + 0) 4) (1000 + 22) 99 (some (100 + 22)) = h at hC ⊢
  refine e_aload_n dX9_init_153 rfl rfl ?_
  refine e_iconst dX9_init_154 ?_
  refine e_newa 123 0 4 dX9_init_155 (by decide) rfl tw_arrInt rfl (by decide) (by decide) (hC.2.2.1 23 (by decide) (by decide)) (by decide) (by decide) ?_
  refine e_putR dX9_init_157 flX9_68 (Or.inr ⟨rfl, rfl, rfl⟩) rfl (CT_k hC (by decide)) ?_
  have hC := CT_s hC (n := 23) (kd := 100 + 0) (len := 4) (by decide) (by decide) rfl rfl
  have hx : sr (nw h 123 (100 + 0) 4) 1023 99 (some 123) = sr (nw h (100 + 23) (100 + 0) 4) (1000 + 23) 99 (some (100 + 23)) := rfl
  refine e_heq hx ?_
  generalize sr (nw h (100 + 23) (100 + 0) 4) (1000 + 23) 99 (some (100 + 23)) = h at hC ⊢
  refine e_aload_n dX9_init_160 rfl rfl ?_
  refine e_bipush dX9_init_161 (by decide) ?_
  refine e_newa 124 1 16 dX9_init_163 (by decide) rfl tw_arrBool rfl (by decide) (by decide) (hC.2.2.1 24 (by decide) (by decide)) (by decide) (by decide) ?_
  refine e_putR dX9_init_165 flX9_71 (Or.inr ⟨rfl, rfl, rfl⟩) rfl (CT_k hC (by decide)) ?_
  have hC := CT_s hC (n := 24) (kd := 100 + 1) (len := 16) (by decide) (by decide) rfl rfl
  have hx : sr (nw h 124 (100 + 1) 16) 1024 99 (some 124) = sr (nw h (100 + 24) (100 + 1) 16) (1000 + 24) 99 (some (100 + 24)) := rfl
  refine e_heq hx ?_
  generalize sr (nw h (100 + 24) (100 + 1) 16) (1000 + 24) 99 (some (100 + 24)) = h at hC ⊢
  refine e_aload_n dX9_init_168 rfl rfl ?_
  refine e_bipush dX9_init_169 (by decide) ?_
  refine e_newa 125 1 48 dX9_init_171 (by decide) rfl tw_arrBool rfl (by decide) (by decide) (hC.2.2.1 25 (by decide) (by decide)) (by decide) (by decide) ?_
  refine e_putR dX9_init_173 flX9_74 (Or.inr ⟨rfl, rfl, rfl⟩) rfl (CT_k hC (by decide)) ?_
  have hC := CT_s hC (n := 25) (kd := 100 + 1) (len := 48) (by decide) (by decide) rfl rfl
  have hx : sr (nw h 125 (100 + 1) 48) 1025 99 (some 125) = sr (nw h (100 + 25) (100 + 1) 48) (1000 + 25) 99 (some (100 + 25)) := rfl
  refine e_heq hx ?_
  generalize sr (nw h (100 + 25) (100 + 1) 48) (1000 + 25) 99 (some (100 + 25)) = h at hC ⊢
  refine e_aload_n dX9_init_176 rfl rfl ?_
  refine e_iconst dX9_init_177 ?_
  refine e_newa 126 1 4 dX9_init_178 (by decide) rfl tw_arrBool rfl (by decide) (by decide) (hC.2.2.1 26 (by decide) (by decide)) (by decide) (by decide) ?_
  refine e_putR dX9_init_180 flX9_77 (Or.inr ⟨rfl, rfl, rfl⟩) rfl (CT_k hC (by decide)) ?_
  have hC := CT_s hC (n := 26) (kd := 100 + 1) (len := 4) (by decide) (by decide) rfl rfl
  have hx : sr (nw h 126 (100 + 1) 4) 1026 99 (some 126) = sr (nw h (100 + 26) (100 + 1) 4) (1000 + 26) 99 (some (100 + 26)) := rfl
  refine e_heq hx ?_
  generalize sr (nw h (100 + 26) (100 + 1) 4) (1000 + 26) 99 (some (100 + 26)) = h at hC ⊢
  refine e_aload_n dX9_init_183 rfl rfl ?_
  refine e_iconst dX9_init_184 ?_
  refine e_newa 127 1 4 dX9_init_185 (by decide) rfl tw_arrBool rfl (by decide) (by decide) (hC.2.2.1 27 (by decide) (by decide)) (by decide) (by decide) ?_
  refine e_putR dX9_init_187 flX9_80 (Or.inr ⟨rfl, rfl, rfl⟩) rfl (CT_k hC (by decide)) ?_
  have hC := CT_s hC (n := 27) (kd := 100 + 1) (len := 4) (by decide) (by decide) rfl rfl
  have hx : sr (nw h 127 (100 + 1) 4) 1027 99 (some 127) = sr (nw h (100 + 27) (100 + 1) 4) (1000 + 27) 99 (some (100 + 27)) := rfl
  refine e_heq hx ?_
  generalize sr (nw h (100 + 27) (100 + 1) 4) (1000 + 27) 99 (some (100 + 27)) = h at hC ⊢
  refine e_aload_n dX9_init_190 rfl rfl ?_
  refine e_iconst dX9_init_191 ?_
  refine e_newa 128 0 4 dX9_init_192 (by decide) rfl tw_arrInt rfl (by decide) (by decide) (hC.2.2.1 28 (by decide) (by decide)) (by decide) (by decide) ?_
  refine e_putR dX9_init_194 flX9_83 (Or.inr ⟨rfl, rfl, rfl⟩) rfl (CT_k hC (by decide)) ?_
  have hC := CT_s hC (n := 28) (kd := 100 + 0) (len := 4) (by decide) (by decide) rfl rfl
  have hx : sr (nw h 128 (100 + 0) 4) 1028 99 (some 128) = sr (nw h (100 + 28) (100 + 0) 4) (1000 + 28) 99 (some (100 + 28)) := rfl
  refine e_heq hx ?_
  generalize sr (nw h (100 + 28) (100 + 0) 4) (1000 + 28) 99 (some (100 + 28)) = h at hC ⊢
  refine e_aload_n dX9_init_197 rfl rfl ?_
  refine e_bipush dX9_init_198 (by decide) ?_
  refine e_newa 129 1 32 dX9_init_200 (by decide) rfl tw_arrBool rfl (by decide) (by decide) (hC.2.2.1 29 (by decide) (by decide)) (by decide) (by decide) ?_
  refine e_putR dX9_init_202 flX9_86 (Or.inr ⟨rfl, rfl, rfl⟩) rfl (CT_k hC (by decide)) ?_
  have hC := CT_s hC (n := 29) (kd := 100 + 1) (len := 32) (by decide) (by decide) rfl rfl
  have hx : sr (nw h 129 (100 + 1) 32) 1029 99 (some 129) = sr (nw h (100 + 29) (100 + 1) 32) (1000 + 29) 99 (some (100 + 29)) := rfl
  refine e_heq hx ?_
  generalize sr (nw h (100 + 29) (100 + 1) 32) (1000 + 29) 99 (some (100 + 29)) = h at hC ⊢
  refine e_aload_n dX9_init_205 rfl rfl ?_
  refine e_sipush dX9_init_206 (by decide) ?_
  refine e_newa 130 0 384 dX9_init_209 (by decide) rfl tw_arrInt rfl (by decide) (by decide) (hC.2.2.1 30 (by decide) (by decide)) (by decide) (by decide) ?_
  refine e_putR dX9_init_211 flX9_89 (Or.inr ⟨rfl, rfl, rfl⟩) rfl (CT_k hC (by decide)) ?_
  have hC := CT_s hC (n := 30) (kd := 100 + 0) (len := 384) (by decide) (by decide) rfl rfl
  have hx : sr (nw h 130 (100 + 0) 384) 1030 99 (some 130) = sr (nw h (100 + 30) (100 + 0) 384) (1000 + 30) 99 (some (100 + 30)) := rfl
  refine e_heq hx ?_
  generalize sr (nw h (100 + 30) (100 + 0) 384) (1000 + 30) 99 (some (100 + 30)) = h at hC ⊢
  refine e_aload_n dX9_init_214 rfl rfl ?_
  refine e_iconst dX9_init_215 ?_
  refine e_newa 131 1 4 dX9_init_216 (by decide) rfl tw_arrBool rfl (by decide) (by decide) (hC.2.2.1 31 (by decide) (by decide)) (by decide) (by decide) ?_
  refine e_putR dX9_init_218 flX9_92 (Or.inr ⟨rfl, rfl, rfl⟩) rfl (CT_k hC (by decide)) ?_
  have hC := CT_s hC (n := 31) (kd := 100 + 1) (len := 4) (by decide) (by decide) rfl rfl
  have hx : sr (nw h 131 (100 + 1) 4) 1031 99 (some 131) = sr (nw h (100 + 31) (100 + 1) 4) (1000 + 31) 99 (some (100 + 31)) := rfl
  refine e_heq hx ?_
  generalize sr (nw h (100 + 31) (100 + 1) 4) (1000 + 31) 99 (some (100 + 31)) = h at hC ⊢
  refine e_aload_n dX9_init_221 rfl rfl ?_
  refine e_iconst dX9_init_222 ?_
  refine e_newa 132 0 4 dX9_init_223 (by decide) rfl tw_arrInt rfl (by decide) (by decide) (hC.2.2.1 32 (by decide) (by decide)) (by decide) (by decide) ?_
  refine e_putR dX9_init_225 flX9_95 (Or.inr ⟨rfl, rfl, rfl⟩) rfl (CT_k hC (by decide)) ?_
  have hC := CT_s hC (n := 32) (kd := 100 + 0) (len := 4) (by decide) (by decide) rfl rfl
  have hx : sr (nw h 132 (100 + 0) 4) 1032 99 (some 132) = sr (nw h (100 + 32) (100 + 0) 4) (1000 + 32) 99 (some (100 + 32)) := rfl
  refine e_heq hx ?_
  generalize sr (nw h (100 + 32) (100 + 0) 4) (1000 + 32) 99 (some (100 + 32)) = h at hC ⊢
  refine e_aload_n dX9_init_228 rfl rfl ?_
  refine e_iconst dX9_init_229 ?_
  refine e_newa 133 0 4 dX9_init_230 (by decide) rfl tw_arrInt rfl (by decide) (by decide) (hC.2.2.1 33 (by decide) (by decide)) (by decide) (by decide) ?_
  refine e_putR dX9_init_232 flX9_98 (Or.inr ⟨rfl, rfl, rfl⟩) rfl (CT_k hC (by decide)) ?_
  have hC := CT_s hC (n := 33) (kd := 100 + 0) (len := 4) (by decide) (by decide) rfl rfl
  have hx : sr (nw h 133 (100 + 0) 4) 1033 99 (some 133) = sr (nw h (100 + 33) (100 + 0) 4) (1000 + 33) 99 (some (100 + 33)) := rfl
  refine e_heq hx ?_
  generalize sr (nw h (100 + 33) (100 + 0) 4) (1000 + 33) 99 (some (100 + 33)) = h at hC ⊢
  refine e_aload_n dX9_init_235 rfl rfl ?_
  refine e_sipush dX9_init_236 (by decide) ?_
  refine e_newa 134 0 23040 dX9_init_239 (by decide) rfl tw_arrInt rfl (by decide) (by decide) (hC.2.2.1 34 (by decide) (by decide)) (by decide) (by decide) ?_
  refine e_putR dX9_init_241 flX9_101 (Or.inr ⟨rfl, rfl, rfl⟩) rfl (CT_k hC (by decide)) ?_
  have hC := CT_s hC (n := 34) (kd := 100 + 0) (len := 23040) (by decide) (by decide) rfl rfl
  have hx : sr (nw h 134 (100 + 0) 23040) 1034 99 (some 134) = sr (nw h (100 + 34) (100 + 0) 23040) (1000 + 34) 99 (some (100 + 34)) := rfl
  refine e_heq hx ?_
  generalize sr (nw h (100 + 34) (100 + 0) 23040) (1000 + 34) 99 (some (100 + 34)) = h at hC ⊢
  refine e_aload_n dX9_init_244 rfl rfl ?_
  refine e_bipush dX9_init_245 (by decide) ?_
  refine e_newa 135 0 6 dX9_init_247 (by decide) rfl tw_arrInt rfl (by decide) (by decide) (hC.2.2.1 35 (by decide) (by decide)) (by decide) (by decide) ?_
  refine e_putR dX9_init_249 flX9_104 (Or.inr ⟨rfl, rfl, rfl⟩) rfl (CT_k hC (by decide)) ?_
  have hC := CT_s hC (n := 35) (kd := 100 + 0) (len := 6) (by decide) (by decide) rfl rfl
  have hx : sr (nw h 135 (100 + 0) 6) 1035 99 (some 135) = sr (nw h (100 + 35) (100 + 0) 6) (1000 + 35) 99 (some (100 + 35)) := rfl
  refine e_heq hx ?_
  generalize sr (nw h (100 + 35) (100 + 0) 6) (1000 + 35) 99 (some (100 + 35)) = h at hC ⊢
  refine e_aload_n dX9_init_252 rfl rfl ?_
  refine e_bipush dX9_init_253 (by decide) ?_
  refine e_newa 136 0 6 dX9_init_255 (by decide) rfl tw_arrInt rfl (by decide) (by decide) (hC.2.2.1 36 (by decide) (by decide)) (by decide) (by decide) ?_
  refine e_putR dX9_init_257 flX9_107 (Or.inr ⟨rfl, rfl, rfl⟩) rfl (CT_k hC (by decide)) ?_
  have hC := CT_s hC (n := 36) (kd := 100 + 0) (len := 6) (by decide) (by decide) rfl rfl
  have hx : sr (nw h 136 (100 + 0) 6) 1036 99 (some 136) = sr (nw h (100 + 36) (100 + 0) 6) (1000 + 36) 99 (some (100 + 36)) := rfl
  refine e_heq hx ?_
  generalize sr (nw h (100 + 36) (100 + 0) 6) (1000 + 36) 99 (some (100 + 36)) = h at hC ⊢
  refine e_aload_n dX9_init_260 rfl rfl ?_
  refine e_bipush dX9_init_261 (by decide) ?_
  refine e_newa 137 0 6 dX9_init_263 (by decide) rfl tw_arrInt rfl (by decide) (by decide) (hC.2.2.1 37 (by decide) (by decide)) (by decide) (by decide) ?_
  refine e_putR dX9_init_265 flX9_110 (Or.inr ⟨rfl, rfl, rfl⟩) rfl (CT_k hC (by decide)) ?_
  have hC := CT_s hC (n := 37) (kd := 100 + 0) (len := 6) (by decide) (by decide) rfl rfl
  have hx : sr (nw h 137 (100 + 0) 6) 1037 99 (some 137) = sr (nw h (100 + 37) (100 + 0) 6) (1000 + 37) 99 (some (100 + 37)) := rfl
  refine e_heq hx ?_
  generalize sr (nw h (100 + 37) (100 + 0) 6) (1000 + 37) 99 (some (100 + 37)) = h at hC ⊢
  refine e_aload_n dX9_init_268 rfl rfl ?_
  refine e_bipush dX9_init_269 (by decide) ?_
  refine e_newa 138 0 6 dX9_init_271 (by decide) rfl tw_arrInt rfl (by decide) (by decide) (hC.2.2.1 38 (by decide) (by decide)) (by decide) (by decide) ?_
  refine e_putR dX9_init_273 flX9_113 (Or.inr ⟨rfl, rfl, rfl⟩) rfl (CT_k hC (by decide)) ?_
  have hC := CT_s hC (n := 38) (kd := 100 + 0) (len := 6) (by decide) (by decide) rfl rfl
  have hx : sr (nw h 138 (100 + 0) 6) 1038 99 (some 138) = sr (nw h (100 + 38) (100 + 0) 6) (1000 + 38) 99 (some (100 + 38)) := rfl
  refine e_heq hx ?_
  generalize sr (nw h (100 + 38) (100 + 0) 6) (1000 + 38) 99 (some (100 + 38)) = h at hC ⊢
  refine e_aload_n dX9_init_276 rfl rfl ?_
  refine e_bipush dX9_init_277 (by decide) ?_
  refine e_newa 139 0 6 dX9_init_279 (by decide) rfl tw_arrInt rfl (by decide) (by decide) (hC.2.2.1 39 (by decide) (by decide)) (by decide) (by decide) ?_
  refine e_putR dX9_init_281 flX9_116 (Or.inr ⟨rfl, rfl, rfl⟩) rfl (CT_k hC (by decide)) ?_
  have hC := CT_s hC (n := 39) (kd := 100 + 0) (len := 6) (by decide) (by decide) rfl rfl
  have hx : sr (nw h 139 (100 + 0) 6) 1039 99 (some 139) = sr (nw h (100 + 39) (100 + 0) 6) (1000 + 39) 99 (some (100 + 39)) := rfl
  refine e_heq hx ?_
  generalize sr (nw h (100 + 39) (100 + 0) 6) (1000 + 39) 99 (some (100 + 39)) = h at hC ⊢
  refine e_aload_n dX9_init_284 rfl rfl ?_
  refine e_sipush dX9_init_285 (by decide) ?_
  refine e_newa 140 0 576 dX9_init_288 (by decide) rfl tw_arrInt rfl (by decide) (by decide) (hC.2.2.1 40 (by decide) (by decide)) (by decide) (by decide) ?_
  refine e_putR dX9_init_290 flX9_119 (Or.inr ⟨rfl, rfl, rfl⟩) rfl (CT_k hC (by decide)) ?_
  have hC := CT_s hC (n := 40) (kd := 100 + 0) (len := 576) (by decide) (by decide) rfl rfl
  have hx : sr (nw h 140 (100 + 0) 576) 1040 99 (some 140) = sr (nw h (100 + 40) (100 + 0) 576) (1000 + 40) 99 (some (100 + 40)) := rfl
  refine e_heq hx ?_
  generalize sr (nw h (100 + 40) (100 + 0) 576) (1000 + 40) 99 (some (100 + 40)) = h at hC ⊢
  refine e_aload_n dX9_init_293 rfl rfl ?_
  refine e_bipush dX9_init_294 (by decide) ?_
  refine e_newa 141 0 96 dX9_init_296 (by decide) rfl tw_arrInt rfl (by decide) (by decide) (hC.2.2.1 41 (by decide) (by decide)) (by decide) (by decide) ?_
  refine e_putR dX9_init_298 flX9_122 (Or.inr ⟨rfl, rfl, rfl⟩) rfl (CT_k hC (by decide)) ?_
  have hC := CT_s hC (n := 41) (kd := 100 + 0) (len := 96) (by decide) (by decide) rfl rfl
  have hx : sr (nw h 141 (100 + 0) 96) 1041 99 (some 141) = sr (nw h (100 + 41) (100 + 0) 96) (1000 + 41) 99 (some (100 + 41)) := rfl
  refine e_heq hx ?_
  generalize sr (nw h (100 + 41) (100 + 0) 96) (1000 + 41) 99 (some (100 + 41)) = h at hC ⊢
  refine e_aload_n dX9_init_301 rfl rfl ?_
  refine e_bipush dX9_init_302 (by decide) ?_
  refine e_newa 142 0 96 dX9_init_304 (by decide) rfl tw_arrInt rfl (by decide) (by decide) (hC.2.2.1 42 (by decide) (by decide)) (by decide) (by decide) ?_
  refine e_putR dX9_init_306 flX9_125 (Or.inr ⟨rfl, rfl, rfl⟩) rfl (CT_k hC (by decide)) ?_
  have hC := CT_s hC (n := 42) (kd := 100 + 0) (len := 96) (by decide) (by decide) rfl rfl
  have hx : sr (nw h 142 (100 + 0) 96) 1042 99 (some 142) = sr (nw h (100 + 42) (100 + 0) 96) (1000 + 42) 99 (some (100 + 42)) := rfl
  refine e_heq hx ?_
  generalize sr (nw h (100 + 42) (100 + 0) 96) (1000 + 42) 99 (some (100 + 42)) = h at hC ⊢
  refine e_vret dX9_init_309 rfl (by decide) (by decide) ?_
  exact ⟨rfl, CT_M hC⟩
