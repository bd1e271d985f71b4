section VL
variable {X : vX} {G : vG} {cc : ByteArray} {own : String} {nL : Nat} {R : Room} {S : vSt} {pc : Nat} {lv : List (Nat × Value)} {st : List Value}
theorem V_sld (C : v_Cx X G cc own nL R) {bb L : Nat} {xs : Nat → Int32} (hX : va_X bb L xs (v_s X) (v_s X).heap) (hbl : bb < (v_s X).heap.size) (hbA : ¬ v_AA X bb) {i : Int32} (hi : vp_in i L) (hd : decode cc pc = .ok (.iaload, 1)) (kk : VJ X G S (pc + 1) lv (.int (xs i.toNatClampNeg) :: st)) : VJ X G S pc lv (.int i :: .ref bb :: st) := fun H locs ls hP hS h => va_sld C.x C.b hX hbl hbA hS hi hd (kk H locs ls hP hS h)
theorem V_slen (C : v_Cx X G cc own nL R) {bb L : Nat} {xs : Nat → Int32} (hX : va_X bb L xs (v_s X) (v_s X).heap) (hbl : bb < (v_s X).heap.size) (hbA : ¬ v_AA X bb) (hd : decode cc pc = .ok (.arraylength, 1)) (kk : VJ X G S (pc + 1) lv (.int (Int32.ofNat L) :: st)) : VJ X G S pc lv (.ref bb :: st) := fun H locs ls hP hS h => va_slen C.x C.b hX hbl hbA hS hd (kk H locs ls hP hS h)
end VL
theorem k_RL_100 : Cond.methodLink RL 100 yX11_commit ∈ wsL_law := v_r47 _ (List.mem_of_getElem? (i := 13) rfl)
theorem k_RL_101 : Cond.methodLink RL 101 yX10_reopen ∈ wsL_law := v_r47 _ (List.mem_of_getElem? (i := 23) rfl)
theorem k_RL_105 : Cond.methodLink RL 105 yX11_reopen ∈ wsL_law := v_r48 _ (List.mem_of_getElem? (i := 7) rfl)
theorem k_RL_106 : Cond.methodLink RL 106 yX10_train ∈ wsL_law := v_r48 _ (List.mem_of_getElem? (i := 11) rfl)
theorem k_RL_110 : Cond.methodLink RL 110 yX11_train ∈ wsL_law := v_r48 _ (List.mem_of_getElem? (i := 17) rfl)
theorem k_RL_111 : Cond.methodLink RL 111 yX10_earn ∈ wsL_law := v_r48 _ (List.mem_of_getElem? (i := 21) rfl)
theorem k_RL_114 : Cond.methodLink RL 114 yX11_earn ∈ wsL_law := v_r49 _ (List.mem_of_getElem? (i := 2) rfl)
theorem k_RL_115 : Cond.methodLink RL 115 yX10_rule ∈ wsL_law := v_r49 _ (List.mem_of_getElem? (i := 7) rfl)
theorem k_RL_118 : Cond.methodLink RL 118 yX11_rule ∈ wsL_law := v_r49 _ (List.mem_of_getElem? (i := 14) rfl)
theorem k_RL_119 : Cond.methodLink RL 119 yX10_can ∈ wsL_law := v_r49 _ (List.mem_of_getElem? (i := 19) rfl)
theorem k_RL_122 : Cond.methodLink RL 122 yX11_can ∈ wsL_law := v_r49 _ (List.mem_of_getElem? (i := 23) rfl)
theorem k_RL_123 : Cond.methodLink RL 123 yX10_chance ∈ wsL_law := v_r50 _ (List.mem_of_getElem? (i := 3) rfl)
theorem k_RL_126 : Cond.methodLink RL 126 yX11_chance ∈ wsL_law := v_r50 _ (List.mem_of_getElem? (i := 13) rfl)
theorem k_RL_127 : Cond.methodLink RL 127 yX10_votes ∈ wsL_law := v_r50 _ (List.mem_of_getElem? (i := 17) rfl)
theorem k_RL_13 : Cond.methodLink RL 13 yX10_status ∈ wsL_law := v_r9 _ (List.mem_of_getElem? (i := 10) rfl)
theorem k_RL_130 : Cond.methodLink RL 130 yX11_votes ∈ wsL_law := v_r51 _ (List.mem_of_getElem? (i := 21) rfl)
theorem k_RL_131 : Cond.methodLink RL 131 yX10_wins ∈ wsL_law := v_r52 _ (List.mem_of_getElem? (i := 14) rfl)
theorem k_RL_134 : Cond.methodLink RL 134 yX11_wins ∈ wsL_law := v_r52 _ (List.mem_of_getElem? (i := 22) rfl)
theorem k_RL_135 : Cond.methodLink RL 135 yX10_owes ∈ wsL_law := v_r53 _ (List.mem_of_getElem? (i := 10) rfl)
theorem k_RL_138 : Cond.methodLink RL 138 yX11_owes ∈ wsL_law := v_r53 _ (List.mem_of_getElem? (i := 18) rfl)
theorem k_RL_139 : Cond.methodLink RL 139 yX10_gain ∈ wsL_law := v_r54 _ (List.mem_of_getElem? (i := 2) rfl)
theorem k_RL_142 : Cond.methodLink RL 142 yX11_gain ∈ wsL_law := v_r55 _ (List.mem_of_getElem? (i := 15) rfl)
theorem k_RL_143 : Cond.methodLink RL 143 yX10_loss ∈ wsL_law := v_r55 _ (List.mem_of_getElem? (i := 23) rfl)
theorem k_RL_146 : Cond.methodLink RL 146 yX11_loss ∈ wsL_law := v_r56 _ (List.mem_of_getElem? (i := 7) rfl)
theorem k_RL_147 : Cond.methodLink RL 147 yX10_best ∈ wsL_law := v_r56 _ (List.mem_of_getElem? (i := 15) rfl)
theorem k_RL_150 : Cond.methodLink RL 150 yX11_best ∈ wsL_law := v_r57 _ (List.mem_of_getElem? (i := 15) rfl)
theorem k_RL_151 : Cond.methodLink RL 151 yX10_plan ∈ wsL_law := v_r57 _ (List.mem_of_getElem? (i := 19) rfl)
theorem k_RL_154 : Cond.methodLink RL 154 yX11_plan ∈ wsL_law := v_r58 _ (List.mem_of_getElem? (i := 7) rfl)
theorem k_RL_155 : Cond.methodLink RL 155 yX10_accuser ∈ wsL_law := v_r58 _ (List.mem_of_getElem? (i := 12) rfl)
theorem k_RL_158 : Cond.methodLink RL 158 yX11_accuser ∈ wsL_law := v_r58 _ (List.mem_of_getElem? (i := 20) rfl)
theorem k_RL_159 : Cond.methodLink RL 159 yX10_dreaded ∈ wsL_law := v_r59 _ (List.mem_of_getElem? (i := 0) rfl)
theorem k_RL_162 : Cond.methodLink RL 162 yX11_dreaded ∈ wsL_law := v_r59 _ (List.mem_of_getElem? (i := 14) rfl)
theorem k_RL_163 : Cond.methodLink RL 163 yX10_dread ∈ wsL_law := v_r59 _ (List.mem_of_getElem? (i := 22) rfl)
theorem k_RL_166 : Cond.methodLink RL 166 yX11_dread ∈ wsL_law := v_r60 _ (List.mem_of_getElem? (i := 6) rfl)
theorem k_RL_167 : Cond.methodLink RL 167 yX10_friend ∈ wsL_law := v_r60 _ (List.mem_of_getElem? (i := 14) rfl)
theorem k_RL_17 : Cond.methodLink RL 17 yX11_status ∈ wsL_law := v_r9 _ (List.mem_of_getElem? (i := 15) rfl)
theorem k_RL_170 : Cond.methodLink RL 170 yX11_friend ∈ wsL_law := v_r60 _ (List.mem_of_getElem? (i := 22) rfl)
theorem k_RL_171 : Cond.methodLink RL 171 yX10_quiet ∈ wsL_law := v_r61 _ (List.mem_of_getElem? (i := 2) rfl)
theorem k_RL_174 : Cond.methodLink RL 174 yX11_quiet ∈ wsL_law := v_r61 _ (List.mem_of_getElem? (i := 18) rfl)
theorem k_RL_175 : Cond.methodLink RL 175 yX10_trade ∈ wsL_law := v_r62 _ (List.mem_of_getElem? (i := 2) rfl)
theorem k_RL_178 : Cond.methodLink RL 178 yX11_trade ∈ wsL_law := v_r62 _ (List.mem_of_getElem? (i := 15) rfl)
theorem k_RL_179 : Cond.methodLink RL 179 yX10_leastShare ∈ wsL_law := v_r62 _ (List.mem_of_getElem? (i := 19) rfl)
theorem k_RL_18 : Cond.methodLink RL 18 yX10_top ∈ wsL_law := v_r9 _ (List.mem_of_getElem? (i := 21) rfl)
theorem k_RL_182 : Cond.methodLink RL 182 yX11_leastShare ∈ wsL_law := v_r63 _ (List.mem_of_getElem? (i := 3) rfl)
theorem k_RL_183 : Cond.methodLink RL 183 yX10_leastFine ∈ wsL_law := v_r63 _ (List.mem_of_getElem? (i := 11) rfl)
theorem k_RL_186 : Cond.methodLink RL 186 yX11_leastFine ∈ wsL_law := v_r63 _ (List.mem_of_getElem? (i := 19) rfl)
theorem k_RL_187 : Cond.methodLink RL 187 yX10_mostPenalty ∈ wsL_law := v_r63 _ (List.mem_of_getElem? (i := 23) rfl)
theorem k_RL_190 : Cond.methodLink RL 190 yX11_mostPenalty ∈ wsL_law := v_r64 _ (List.mem_of_getElem? (i := 7) rfl)
theorem k_RL_191 : Cond.methodLink RL 191 yX10_gladBy ∈ wsL_law := v_r64 _ (List.mem_of_getElem? (i := 11) rfl)
theorem k_RL_194 : Cond.methodLink RL 194 yX11_gladBy ∈ wsL_law := v_r64 _ (List.mem_of_getElem? (i := 15) rfl)
theorem k_RL_195 : Cond.methodLink RL 195 yX10_game ∈ wsL_law := v_r64 _ (List.mem_of_getElem? (i := 19) rfl)
theorem k_RL_198 : Cond.methodLink RL 198 yX11_game ∈ wsL_law := v_r66 _ (List.mem_of_getElem? (i := 0) rfl)
theorem k_RL_199 : Cond.methodLink RL 199 yX10_moveOf ∈ wsL_law := v_r66 _ (List.mem_of_getElem? (i := 13) rfl)
theorem k_RL_202 : Cond.methodLink RL 202 yX11_moveOf ∈ wsL_law := v_r66 _ (List.mem_of_getElem? (i := 22) rfl)
theorem k_RL_203 : Cond.methodLink RL 203 yX10_club ∈ wsL_law := v_r67 _ (List.mem_of_getElem? (i := 2) rfl)
theorem k_RL_206 : Cond.methodLink RL 206 yX11_club ∈ wsL_law := v_r68 _ (List.mem_of_getElem? (i := 11) rfl)
theorem k_RL_207 : Cond.methodLink RL 207 yX10_clubPart ∈ wsL_law := v_r69 _ (List.mem_of_getElem? (i := 6) rfl)
theorem k_RL_210 : Cond.methodLink RL 210 yX11_clubPart ∈ wsL_law := v_r69 _ (List.mem_of_getElem? (i := 12) rfl)
theorem k_RL_211 : Cond.methodLink RL 211 yX10_gained ∈ wsL_law := v_r69 _ (List.mem_of_getElem? (i := 16) rfl)
theorem k_RL_214 : Cond.methodLink RL 214 yX11_gained ∈ wsL_law := v_r71 _ (List.mem_of_getElem? (i := 5) rfl)
theorem k_RL_215 : Cond.methodLink RL 215 yX10_sure ∈ wsL_law := v_r71 _ (List.mem_of_getElem? (i := 18) rfl)
theorem k_RL_218 : Cond.methodLink RL 218 yX11_sure ∈ wsL_law := v_r71 _ (List.mem_of_getElem? (i := 23) rfl)
theorem k_RL_219 : Cond.methodLink RL 219 yX10_bound ∈ wsL_law := v_r72 _ (List.mem_of_getElem? (i := 3) rfl)
theorem k_RL_22 : Cond.methodLink RL 22 yX11_top ∈ wsL_law := v_r10 _ (List.mem_of_getElem? (i := 2) rfl)
theorem k_RL_222 : Cond.methodLink RL 222 yX11_bound ∈ wsL_law := v_r72 _ (List.mem_of_getElem? (i := 15) rfl)
theorem k_RL_223 : Cond.methodLink RL 223 yX10_live ∈ wsL_law := v_r72 _ (List.mem_of_getElem? (i := 19) rfl)
theorem k_RL_226 : Cond.methodLink RL 226 yX11_live ∈ wsL_law := v_r75 _ (List.mem_of_getElem? (i := 5) rfl)
theorem k_RL_227 : Cond.methodLink RL 227 yX10_lived ∈ wsL_law := v_r76 _ (List.mem_of_getElem? (i := 21) rfl)
theorem k_RL_23 : Cond.methodLink RL 23 yX10_bottom ∈ wsL_law := v_r10 _ (List.mem_of_getElem? (i := 7) rfl)
theorem k_RL_230 : Cond.methodLink RL 230 yX11_lived ∈ wsL_law := v_r77 _ (List.mem_of_getElem? (i := 1) rfl)
theorem k_RL_231 : Cond.methodLink RL 231 yX10_mean ∈ wsL_law := v_r77 _ (List.mem_of_getElem? (i := 6) rfl)
theorem k_RL_234 : Cond.methodLink RL 234 yX11_mean ∈ wsL_law := v_r77 _ (List.mem_of_getElem? (i := 11) rfl)
theorem k_RL_235 : Cond.methodLink RL 235 yX10_mark ∈ wsL_law := v_r77 _ (List.mem_of_getElem? (i := 16) rfl)
theorem k_RL_238 : Cond.methodLink RL 238 yX11_mark ∈ wsL_law := v_r77 _ (List.mem_of_getElem? (i := 21) rfl)
theorem k_RL_239 : Cond.methodLink RL 239 yX10_back ∈ wsL_law := v_r78 _ (List.mem_of_getElem? (i := 2) rfl)
theorem k_RL_242 : Cond.methodLink RL 242 yX11_back ∈ wsL_law := v_r78 _ (List.mem_of_getElem? (i := 6) rfl)
theorem k_RL_26 : Cond.methodLink RL 26 yX11_bottom ∈ wsL_law := v_r10 _ (List.mem_of_getElem? (i := 11) rfl)
theorem k_RL_27 : Cond.methodLink RL 27 yX10_tray ∈ wsL_law := v_r10 _ (List.mem_of_getElem? (i := 15) rfl)
theorem k_RL_31 : Cond.methodLink RL 31 yX11_tray ∈ wsL_law := v_r11 _ (List.mem_of_getElem? (i := 10) rfl)
theorem k_RL_32 : Cond.constantLong RL 32 (4294967295) ∈ wsL_law := v_r1 _ (List.mem_of_getElem? (i := 6) rfl)
theorem k_RL_34 : Cond.methodLink RL 34 yX10_write ∈ wsL_law := v_r11 _ (List.mem_of_getElem? (i := 18) rfl)
theorem k_RL_38 : Cond.methodLink RL 38 yX11_write ∈ wsL_law := v_r12 _ (List.mem_of_getElem? (i := 15) rfl)
theorem k_RL_39 : Cond.methodLink RL 39 yX10_read ∈ wsL_law := v_r13 _ (List.mem_of_getElem? (i := 6) rfl)
theorem k_RL_43 : Cond.methodLink RL 43 yX11_read ∈ wsL_law := v_r13 _ (List.mem_of_getElem? (i := 17) rfl)
theorem k_RL_44 : Cond.methodLink RL 44 yX10_pour ∈ wsL_law := v_r13 _ (List.mem_of_getElem? (i := 22) rfl)
theorem k_RL_48 : Cond.methodLink RL 48 yX11_pour ∈ wsL_law := v_r14 _ (List.mem_of_getElem? (i := 15) rfl)
theorem k_RL_49 : Cond.methodLink RL 49 yX10_feed ∈ wsL_law := v_r14 _ (List.mem_of_getElem? (i := 19) rfl)
theorem k_RL_53 : Cond.methodLink RL 53 yX11_feed ∈ wsL_law := v_r15 _ (List.mem_of_getElem? (i := 9) rfl)
theorem k_RL_54 : Cond.methodLink RL 54 yX10_city ∈ wsL_law := v_r15 _ (List.mem_of_getElem? (i := 18) rfl)
theorem k_RL_58 : Cond.methodLink RL 58 yX11_city ∈ wsL_law := v_r24 _ (List.mem_of_getElem? (i := 16) rfl)
theorem k_RL_59 : Cond.methodLink RL 59 yX10_years ∈ wsL_law := v_r32 _ (List.mem_of_getElem? (i := 7) rfl)
theorem k_RL_62 : Cond.methodLink RL 62 yX11_years ∈ wsL_law := v_r35 _ (List.mem_of_getElem? (i := 18) rfl)
theorem k_RL_63 : Cond.methodLink RL 63 yX10_fault ∈ wsL_law := v_r36 _ (List.mem_of_getElem? (i := 11) rfl)
theorem k_RL_66 : Cond.methodLink RL 66 yX11_fault ∈ wsL_law := v_r36 _ (List.mem_of_getElem? (i := 15) rfl)
theorem k_RL_67 : Cond.methodLink RL 67 yX10_many ∈ wsL_law := v_r36 _ (List.mem_of_getElem? (i := 19) rfl)
theorem k_RL_70 : Cond.methodLink RL 70 yX11_many ∈ wsL_law := v_r37 _ (List.mem_of_getElem? (i := 19) rfl)
theorem k_RL_71 : Cond.methodLink RL 71 yX10_person ∈ wsL_law := v_r38 _ (List.mem_of_getElem? (i := 16) rfl)
theorem k_RL_75 : Cond.methodLink RL 75 yX11_person ∈ wsL_law := v_r39 _ (List.mem_of_getElem? (i := 12) rfl)
theorem k_RL_76 : Cond.methodLink RL 76 yX10_deed ∈ wsL_law := v_r40 _ (List.mem_of_getElem? (i := 2) rfl)
theorem k_RL_79 : Cond.methodLink RL 79 yX11_deed ∈ wsL_law := v_r40 _ (List.mem_of_getElem? (i := 18) rfl)
theorem k_RL_80 : Cond.methodLink RL 80 yX10_copyCoins ∈ wsL_law := v_r41 _ (List.mem_of_getElem? (i := 2) rfl)
theorem k_RL_83 : Cond.methodLink RL 83 yX11_copyCoins ∈ wsL_law := v_r41 _ (List.mem_of_getElem? (i := 13) rfl)
theorem k_RL_84 : Cond.methodLink RL 84 yX10_charge ∈ wsL_law := v_r41 _ (List.mem_of_getElem? (i := 23) rfl)
theorem k_RL_88 : Cond.methodLink RL 88 yX11_charge ∈ wsL_law := v_r43 _ (List.mem_of_getElem? (i := 8) rfl)
theorem k_RL_89 : Cond.methodLink RL 89 yX10_hear ∈ wsL_law := v_r44 _ (List.mem_of_getElem? (i := 14) rfl)
theorem k_RL_92 : Cond.methodLink RL 92 yX11_hear ∈ wsL_law := v_r45 _ (List.mem_of_getElem? (i := 16) rfl)
theorem k_RL_93 : Cond.methodLink RL 93 yX10_drop ∈ wsL_law := v_r46 _ (List.mem_of_getElem? (i := 11) rfl)
theorem k_RL_96 : Cond.methodLink RL 96 yX11_drop ∈ wsL_law := v_r47 _ (List.mem_of_getElem? (i := 0) rfl)
theorem k_RL_97 : Cond.methodLink RL 97 yX10_commit ∈ wsL_law := v_r47 _ (List.mem_of_getElem? (i := 8) rfl)
theorem KV_X10_accuser : v_KV RX10 yX10_accuser cX10_accuser 2 (some .int) 1 := ⟨v_r58 _ (List.mem_of_getElem? (i := 13) rfl), v_r58 _ (List.mem_of_getElem? (i := 14) rfl), v_r1 _ (List.mem_of_getElem? (i := 2) rfl), v_r58 _ (List.mem_of_getElem? (i := 15) rfl), by decide +kernel⟩
theorem KV_X10_back : v_KV RX10 yX10_back cX10_back 3 (some .int) 0 := ⟨v_r78 _ (List.mem_of_getElem? (i := 3) rfl), v_r78 _ (List.mem_of_getElem? (i := 4) rfl), v_r1 _ (List.mem_of_getElem? (i := 2) rfl), v_r78 _ (List.mem_of_getElem? (i := 5) rfl), by decide +kernel⟩
theorem KV_X10_best : v_KV RX10 yX10_best cX10_best 2 (some .int) 1 := ⟨v_r56 _ (List.mem_of_getElem? (i := 16) rfl), v_r56 _ (List.mem_of_getElem? (i := 17) rfl), v_r1 _ (List.mem_of_getElem? (i := 2) rfl), v_r56 _ (List.mem_of_getElem? (i := 18) rfl), by decide +kernel⟩
theorem KV_X10_bottom : v_KV RX10 yX10_bottom cX10_bottom 1 (some .long) 0 := ⟨v_r10 _ (List.mem_of_getElem? (i := 8) rfl), v_r10 _ (List.mem_of_getElem? (i := 9) rfl), v_r1 _ (List.mem_of_getElem? (i := 2) rfl), v_r10 _ (List.mem_of_getElem? (i := 10) rfl), by decide +kernel⟩
theorem KV_X10_bound : v_KV RX10 yX10_bound cX10_bound 3 (some .int) 2 := ⟨v_r72 _ (List.mem_of_getElem? (i := 4) rfl), v_r72 _ (List.mem_of_getElem? (i := 5) rfl), v_r1 _ (List.mem_of_getElem? (i := 2) rfl), v_r72 _ (List.mem_of_getElem? (i := 6) rfl), by decide +kernel⟩
theorem KV_X10_can : v_KV RX10 yX10_can cX10_can 3 (some .int) 2 := ⟨v_r49 _ (List.mem_of_getElem? (i := 20) rfl), v_r49 _ (List.mem_of_getElem? (i := 21) rfl), v_r1 _ (List.mem_of_getElem? (i := 2) rfl), v_r49 _ (List.mem_of_getElem? (i := 22) rfl), by decide +kernel⟩
theorem KV_X10_chance : v_KV RX10 yX10_chance cX10_chance 4 (some .int) 2 := ⟨v_r50 _ (List.mem_of_getElem? (i := 4) rfl), v_r50 _ (List.mem_of_getElem? (i := 5) rfl), v_r1 _ (List.mem_of_getElem? (i := 2) rfl), v_r50 _ (List.mem_of_getElem? (i := 6) rfl), by decide +kernel⟩
theorem KV_X10_charge : v_KV RX10 yX10_charge cX10_charge 4 (some .int) 3 := ⟨v_r42 _ (List.mem_of_getElem? (i := 0) rfl), v_r42 _ (List.mem_of_getElem? (i := 1) rfl), v_r1 _ (List.mem_of_getElem? (i := 2) rfl), v_r42 _ (List.mem_of_getElem? (i := 2) rfl), by decide +kernel⟩
theorem KV_X10_city : v_KV RX10 yX10_city cX10_city 2 (some .int) 1 := ⟨v_r15 _ (List.mem_of_getElem? (i := 19) rfl), v_r15 _ (List.mem_of_getElem? (i := 20) rfl), v_r1 _ (List.mem_of_getElem? (i := 2) rfl), v_r15 _ (List.mem_of_getElem? (i := 21) rfl), by decide +kernel⟩
theorem KV_X10_club : v_KV RX10 yX10_club cX10_club 2 (some .int) 1 := ⟨v_r67 _ (List.mem_of_getElem? (i := 3) rfl), v_r67 _ (List.mem_of_getElem? (i := 4) rfl), v_r1 _ (List.mem_of_getElem? (i := 2) rfl), v_r67 _ (List.mem_of_getElem? (i := 5) rfl), by decide +kernel⟩
theorem KV_X10_clubPart : v_KV RX10 yX10_clubPart cX10_clubPart 2 (some .boolean) 1 := ⟨v_r69 _ (List.mem_of_getElem? (i := 7) rfl), v_r69 _ (List.mem_of_getElem? (i := 8) rfl), v_r1 _ (List.mem_of_getElem? (i := 2) rfl), v_r69 _ (List.mem_of_getElem? (i := 9) rfl), by decide +kernel⟩
theorem KV_X10_commit : v_KV RX10 yX10_commit cX10_commit 4 (some .int) 3 := ⟨v_r47 _ (List.mem_of_getElem? (i := 9) rfl), v_r47 _ (List.mem_of_getElem? (i := 10) rfl), v_r1 _ (List.mem_of_getElem? (i := 2) rfl), v_r47 _ (List.mem_of_getElem? (i := 11) rfl), by decide +kernel⟩
theorem KV_X10_copyCoins : v_KV RX10 yX10_copyCoins cX10_copyCoins 4 (some .int) 1 := ⟨v_r41 _ (List.mem_of_getElem? (i := 3) rfl), v_r41 _ (List.mem_of_getElem? (i := 4) rfl), v_r1 _ (List.mem_of_getElem? (i := 2) rfl), v_r41 _ (List.mem_of_getElem? (i := 5) rfl), by decide +kernel⟩
theorem KV_X10_deed : v_KV RX10 yX10_deed cX10_deed 3 (some .int) 2 := ⟨v_r40 _ (List.mem_of_getElem? (i := 3) rfl), v_r40 _ (List.mem_of_getElem? (i := 4) rfl), v_r1 _ (List.mem_of_getElem? (i := 2) rfl), v_r40 _ (List.mem_of_getElem? (i := 5) rfl), by decide +kernel⟩
theorem KV_X10_dread : v_KV RX10 yX10_dread cX10_dread 2 (some .boolean) 1 := ⟨v_r59 _ (List.mem_of_getElem? (i := 23) rfl), v_r60 _ (List.mem_of_getElem? (i := 0) rfl), v_r1 _ (List.mem_of_getElem? (i := 2) rfl), v_r60 _ (List.mem_of_getElem? (i := 1) rfl), by decide +kernel⟩
theorem KV_X10_dreaded : v_KV RX10 yX10_dreaded cX10_dreaded 2 (some .int) 1 := ⟨v_r59 _ (List.mem_of_getElem? (i := 1) rfl), v_r59 _ (List.mem_of_getElem? (i := 2) rfl), v_r1 _ (List.mem_of_getElem? (i := 2) rfl), v_r59 _ (List.mem_of_getElem? (i := 3) rfl), by decide +kernel⟩
theorem KV_X10_drop : v_KV RX10 yX10_drop cX10_drop 4 (some .int) 3 := ⟨v_r46 _ (List.mem_of_getElem? (i := 12) rfl), v_r46 _ (List.mem_of_getElem? (i := 13) rfl), v_r1 _ (List.mem_of_getElem? (i := 2) rfl), v_r46 _ (List.mem_of_getElem? (i := 14) rfl), by decide +kernel⟩
theorem KV_X10_earn : v_KV RX10 yX10_earn cX10_earn 3 (some .int) 2 := ⟨v_r48 _ (List.mem_of_getElem? (i := 22) rfl), v_r48 _ (List.mem_of_getElem? (i := 23) rfl), v_r1 _ (List.mem_of_getElem? (i := 2) rfl), v_r49 _ (List.mem_of_getElem? (i := 0) rfl), by decide +kernel⟩
theorem KV_X10_fault : v_KV RX10 yX10_fault cX10_fault 2 (some .int) 1 := ⟨v_r36 _ (List.mem_of_getElem? (i := 12) rfl), v_r36 _ (List.mem_of_getElem? (i := 13) rfl), v_r1 _ (List.mem_of_getElem? (i := 2) rfl), v_r36 _ (List.mem_of_getElem? (i := 14) rfl), by decide +kernel⟩
theorem KV_X10_feed : v_KV RX10 yX10_feed cX10_feed 6 (some .int) 5 := ⟨v_r14 _ (List.mem_of_getElem? (i := 20) rfl), v_r14 _ (List.mem_of_getElem? (i := 21) rfl), v_r1 _ (List.mem_of_getElem? (i := 2) rfl), v_r14 _ (List.mem_of_getElem? (i := 22) rfl), by decide +kernel⟩
theorem KV_X10_friend : v_KV RX10 yX10_friend cX10_friend 2 (some .int) 1 := ⟨v_r60 _ (List.mem_of_getElem? (i := 15) rfl), v_r60 _ (List.mem_of_getElem? (i := 16) rfl), v_r1 _ (List.mem_of_getElem? (i := 2) rfl), v_r60 _ (List.mem_of_getElem? (i := 17) rfl), by decide +kernel⟩
theorem KV_X10_gain : v_KV RX10 yX10_gain cX10_gain 4 (some .boolean) 2 := ⟨v_r54 _ (List.mem_of_getElem? (i := 3) rfl), v_r54 _ (List.mem_of_getElem? (i := 4) rfl), v_r1 _ (List.mem_of_getElem? (i := 2) rfl), v_r54 _ (List.mem_of_getElem? (i := 5) rfl), by decide +kernel⟩
theorem KV_X10_gained : v_KV RX10 yX10_gained cX10_gained 4 (some .int) 2 := ⟨v_r69 _ (List.mem_of_getElem? (i := 17) rfl), v_r69 _ (List.mem_of_getElem? (i := 18) rfl), v_r1 _ (List.mem_of_getElem? (i := 2) rfl), v_r69 _ (List.mem_of_getElem? (i := 19) rfl), by decide +kernel⟩
theorem KV_X10_game : v_KV RX10 yX10_game cX10_game 5 (some .boolean) 3 := ⟨v_r64 _ (List.mem_of_getElem? (i := 20) rfl), v_r64 _ (List.mem_of_getElem? (i := 21) rfl), v_r1 _ (List.mem_of_getElem? (i := 2) rfl), v_r64 _ (List.mem_of_getElem? (i := 22) rfl), by decide +kernel⟩
theorem KV_X10_gladBy : v_KV RX10 yX10_gladBy cX10_gladBy 3 (some .int) 2 := ⟨v_r64 _ (List.mem_of_getElem? (i := 12) rfl), v_r64 _ (List.mem_of_getElem? (i := 13) rfl), v_r1 _ (List.mem_of_getElem? (i := 2) rfl), v_r64 _ (List.mem_of_getElem? (i := 14) rfl), by decide +kernel⟩
theorem KV_X10_hear : v_KV RX10 yX10_hear cX10_hear 5 (some .int) 3 := ⟨v_r44 _ (List.mem_of_getElem? (i := 15) rfl), v_r44 _ (List.mem_of_getElem? (i := 16) rfl), v_r1 _ (List.mem_of_getElem? (i := 2) rfl), v_r44 _ (List.mem_of_getElem? (i := 17) rfl), by decide +kernel⟩
theorem KV_X10_leastFine : v_KV RX10 yX10_leastFine cX10_leastFine 2 (some .int) 1 := ⟨v_r63 _ (List.mem_of_getElem? (i := 12) rfl), v_r63 _ (List.mem_of_getElem? (i := 13) rfl), v_r1 _ (List.mem_of_getElem? (i := 2) rfl), v_r63 _ (List.mem_of_getElem? (i := 14) rfl), by decide +kernel⟩
theorem KV_X10_leastShare : v_KV RX10 yX10_leastShare cX10_leastShare 2 (some .int) 1 := ⟨v_r62 _ (List.mem_of_getElem? (i := 20) rfl), v_r62 _ (List.mem_of_getElem? (i := 21) rfl), v_r1 _ (List.mem_of_getElem? (i := 2) rfl), v_r62 _ (List.mem_of_getElem? (i := 22) rfl), by decide +kernel⟩
theorem KV_X10_live : v_KV RX10 yX10_live cX10_live 2 (some .int) 1 := ⟨v_r72 _ (List.mem_of_getElem? (i := 20) rfl), v_r72 _ (List.mem_of_getElem? (i := 21) rfl), v_r1 _ (List.mem_of_getElem? (i := 2) rfl), v_r72 _ (List.mem_of_getElem? (i := 22) rfl), by decide +kernel⟩
theorem KV_X10_lived : v_KV RX10 yX10_lived cX10_lived 2 (some .int) 1 := ⟨v_r76 _ (List.mem_of_getElem? (i := 22) rfl), v_r76 _ (List.mem_of_getElem? (i := 23) rfl), v_r1 _ (List.mem_of_getElem? (i := 2) rfl), v_r77 _ (List.mem_of_getElem? (i := 0) rfl), by decide +kernel⟩
theorem KV_X10_loss : v_KV RX10 yX10_loss cX10_loss 4 (some .boolean) 2 := ⟨v_r56 _ (List.mem_of_getElem? (i := 0) rfl), v_r56 _ (List.mem_of_getElem? (i := 1) rfl), v_r1 _ (List.mem_of_getElem? (i := 2) rfl), v_r56 _ (List.mem_of_getElem? (i := 2) rfl), by decide +kernel⟩
theorem KV_X10_many : v_KV RX10 yX10_many cX10_many 2 (some .int) 1 := ⟨v_r36 _ (List.mem_of_getElem? (i := 20) rfl), v_r36 _ (List.mem_of_getElem? (i := 21) rfl), v_r1 _ (List.mem_of_getElem? (i := 2) rfl), v_r36 _ (List.mem_of_getElem? (i := 22) rfl), by decide +kernel⟩
theorem KV_X10_mark : v_KV RX10 yX10_mark cX10_mark 2 (some .int) 0 := ⟨v_r77 _ (List.mem_of_getElem? (i := 17) rfl), v_r77 _ (List.mem_of_getElem? (i := 18) rfl), v_r1 _ (List.mem_of_getElem? (i := 2) rfl), v_r77 _ (List.mem_of_getElem? (i := 19) rfl), by decide +kernel⟩
theorem KV_X10_mean : v_KV RX10 yX10_mean cX10_mean 6 (some .boolean) 2 := ⟨v_r77 _ (List.mem_of_getElem? (i := 7) rfl), v_r77 _ (List.mem_of_getElem? (i := 8) rfl), v_r1 _ (List.mem_of_getElem? (i := 2) rfl), v_r77 _ (List.mem_of_getElem? (i := 9) rfl), by decide +kernel⟩
theorem KV_X10_mostPenalty : v_KV RX10 yX10_mostPenalty cX10_mostPenalty 2 (some .int) 1 := ⟨v_r64 _ (List.mem_of_getElem? (i := 0) rfl), v_r64 _ (List.mem_of_getElem? (i := 1) rfl), v_r1 _ (List.mem_of_getElem? (i := 2) rfl), v_r64 _ (List.mem_of_getElem? (i := 2) rfl), by decide +kernel⟩
theorem KV_X10_moveOf : v_KV RX10 yX10_moveOf cX10_moveOf 5 (some .int) 3 := ⟨v_r66 _ (List.mem_of_getElem? (i := 14) rfl), v_r66 _ (List.mem_of_getElem? (i := 15) rfl), v_r1 _ (List.mem_of_getElem? (i := 2) rfl), v_r66 _ (List.mem_of_getElem? (i := 16) rfl), by decide +kernel⟩
theorem KV_X10_owes : v_KV RX10 yX10_owes cX10_owes 4 (some .boolean) 2 := ⟨v_r53 _ (List.mem_of_getElem? (i := 11) rfl), v_r53 _ (List.mem_of_getElem? (i := 12) rfl), v_r1 _ (List.mem_of_getElem? (i := 2) rfl), v_r53 _ (List.mem_of_getElem? (i := 13) rfl), by decide +kernel⟩
theorem KV_X10_person : v_KV RX10 yX10_person cX10_person 3 (some .int) 2 := ⟨v_r38 _ (List.mem_of_getElem? (i := 17) rfl), v_r38 _ (List.mem_of_getElem? (i := 18) rfl), v_r1 _ (List.mem_of_getElem? (i := 2) rfl), v_r38 _ (List.mem_of_getElem? (i := 19) rfl), by decide +kernel⟩
theorem KV_X10_plan : v_KV RX10 yX10_plan cX10_plan 3 (some .boolean) 2 := ⟨v_r57 _ (List.mem_of_getElem? (i := 20) rfl), v_r57 _ (List.mem_of_getElem? (i := 21) rfl), v_r1 _ (List.mem_of_getElem? (i := 2) rfl), v_r57 _ (List.mem_of_getElem? (i := 22) rfl), by decide +kernel⟩
theorem KV_X10_pour : v_KV RX10 yX10_pour cX10_pour 7 (some .boolean) 5 := ⟨v_r13 _ (List.mem_of_getElem? (i := 23) rfl), v_r14 _ (List.mem_of_getElem? (i := 0) rfl), v_r1 _ (List.mem_of_getElem? (i := 2) rfl), v_r14 _ (List.mem_of_getElem? (i := 1) rfl), by decide +kernel⟩
theorem KV_X10_quiet : v_KV RX10 yX10_quiet cX10_quiet 1 (some .int) 0 := ⟨v_r61 _ (List.mem_of_getElem? (i := 3) rfl), v_r61 _ (List.mem_of_getElem? (i := 4) rfl), v_r1 _ (List.mem_of_getElem? (i := 2) rfl), v_r61 _ (List.mem_of_getElem? (i := 5) rfl), by decide +kernel⟩
theorem KV_X10_read : v_KV RX10 yX10_read cX10_read 4 (some .long) 2 := ⟨v_r13 _ (List.mem_of_getElem? (i := 7) rfl), v_r13 _ (List.mem_of_getElem? (i := 8) rfl), v_r1 _ (List.mem_of_getElem? (i := 2) rfl), v_r13 _ (List.mem_of_getElem? (i := 9) rfl), by decide +kernel⟩
theorem KV_X10_reopen : v_KV RX10 yX10_reopen cX10_reopen 2 (some .boolean) 1 := ⟨v_r48 _ (List.mem_of_getElem? (i := 0) rfl), v_r48 _ (List.mem_of_getElem? (i := 1) rfl), v_r1 _ (List.mem_of_getElem? (i := 2) rfl), v_r48 _ (List.mem_of_getElem? (i := 2) rfl), by decide +kernel⟩
theorem KV_X10_rule : v_KV RX10 yX10_rule cX10_rule 3 (some .boolean) 2 := ⟨v_r49 _ (List.mem_of_getElem? (i := 8) rfl), v_r49 _ (List.mem_of_getElem? (i := 9) rfl), v_r1 _ (List.mem_of_getElem? (i := 2) rfl), v_r49 _ (List.mem_of_getElem? (i := 10) rfl), by decide +kernel⟩
theorem KV_X10_status : v_KV RX10 yX10_status cX10_status 1 (some .int) 0 := ⟨v_r9 _ (List.mem_of_getElem? (i := 11) rfl), v_r9 _ (List.mem_of_getElem? (i := 12) rfl), v_r1 _ (List.mem_of_getElem? (i := 2) rfl), v_r9 _ (List.mem_of_getElem? (i := 13) rfl), by decide +kernel⟩
theorem KV_X10_sure : v_KV RX10 yX10_sure cX10_sure 4 (some .int) 2 := ⟨v_r71 _ (List.mem_of_getElem? (i := 19) rfl), v_r71 _ (List.mem_of_getElem? (i := 20) rfl), v_r1 _ (List.mem_of_getElem? (i := 2) rfl), v_r71 _ (List.mem_of_getElem? (i := 21) rfl), by decide +kernel⟩
theorem KV_X10_top : v_KV RX10 yX10_top cX10_top 1 (some .long) 0 := ⟨v_r9 _ (List.mem_of_getElem? (i := 22) rfl), v_r9 _ (List.mem_of_getElem? (i := 23) rfl), v_r1 _ (List.mem_of_getElem? (i := 2) rfl), v_r10 _ (List.mem_of_getElem? (i := 0) rfl), by decide +kernel⟩
theorem KV_X10_trade : v_KV RX10 yX10_trade cX10_trade 6 (some .int) 3 := ⟨v_r62 _ (List.mem_of_getElem? (i := 3) rfl), v_r62 _ (List.mem_of_getElem? (i := 4) rfl), v_r1 _ (List.mem_of_getElem? (i := 2) rfl), v_r62 _ (List.mem_of_getElem? (i := 5) rfl), by decide +kernel⟩
theorem KV_X10_train : v_KV RX10 yX10_train cX10_train 3 (some .boolean) 2 := ⟨v_r48 _ (List.mem_of_getElem? (i := 12) rfl), v_r48 _ (List.mem_of_getElem? (i := 13) rfl), v_r1 _ (List.mem_of_getElem? (i := 2) rfl), v_r48 _ (List.mem_of_getElem? (i := 14) rfl), by decide +kernel⟩
theorem KV_X10_tray : v_KV RX10 yX10_tray cX10_tray 4 (some .boolean) 3 := ⟨v_r10 _ (List.mem_of_getElem? (i := 16) rfl), v_r10 _ (List.mem_of_getElem? (i := 17) rfl), v_r1 _ (List.mem_of_getElem? (i := 2) rfl), v_r10 _ (List.mem_of_getElem? (i := 18) rfl), by decide +kernel⟩
theorem KV_X10_votes : v_KV RX10 yX10_votes cX10_votes 4 (some .boolean) 3 := ⟨v_r50 _ (List.mem_of_getElem? (i := 18) rfl), v_r50 _ (List.mem_of_getElem? (i := 19) rfl), v_r1 _ (List.mem_of_getElem? (i := 2) rfl), v_r50 _ (List.mem_of_getElem? (i := 20) rfl), by decide +kernel⟩
theorem KV_X10_wins : v_KV RX10 yX10_wins cX10_wins 4 (some .boolean) 2 := ⟨v_r52 _ (List.mem_of_getElem? (i := 15) rfl), v_r52 _ (List.mem_of_getElem? (i := 16) rfl), v_r1 _ (List.mem_of_getElem? (i := 2) rfl), v_r52 _ (List.mem_of_getElem? (i := 17) rfl), by decide +kernel⟩
theorem KV_X10_write : v_KV RX10 yX10_write cX10_write 6 (some .boolean) 3 := ⟨v_r11 _ (List.mem_of_getElem? (i := 19) rfl), v_r11 _ (List.mem_of_getElem? (i := 20) rfl), v_r1 _ (List.mem_of_getElem? (i := 2) rfl), v_r11 _ (List.mem_of_getElem? (i := 21) rfl), by decide +kernel⟩
theorem KV_X10_years : v_KV RX10 yX10_years cX10_years 2 (some .int) 1 := ⟨v_r32 _ (List.mem_of_getElem? (i := 8) rfl), v_r32 _ (List.mem_of_getElem? (i := 9) rfl), v_r1 _ (List.mem_of_getElem? (i := 2) rfl), v_r32 _ (List.mem_of_getElem? (i := 10) rfl), by decide +kernel⟩
theorem KV_X11_accuser : v_KV RX11 yX11_accuser cX11_accuser 8 (some .int) 1 := ⟨v_r58 _ (List.mem_of_getElem? (i := 21) rfl), v_r58 _ (List.mem_of_getElem? (i := 22) rfl), v_r1 _ (List.mem_of_getElem? (i := 5) rfl), v_r58 _ (List.mem_of_getElem? (i := 23) rfl), by decide +kernel⟩
theorem KV_X11_back : v_KV RX11 yX11_back cX11_back 1 (some .int) 0 := ⟨v_r78 _ (List.mem_of_getElem? (i := 7) rfl), v_r78 _ (List.mem_of_getElem? (i := 8) rfl), v_r1 _ (List.mem_of_getElem? (i := 5) rfl), v_r78 _ (List.mem_of_getElem? (i := 9) rfl), by decide +kernel⟩
theorem KV_X11_best : v_KV RX11 yX11_best cX11_best 8 (some .int) 1 := ⟨v_r57 _ (List.mem_of_getElem? (i := 16) rfl), v_r57 _ (List.mem_of_getElem? (i := 17) rfl), v_r1 _ (List.mem_of_getElem? (i := 5) rfl), v_r57 _ (List.mem_of_getElem? (i := 18) rfl), by decide +kernel⟩
theorem KV_X11_bottom : v_KV RX11 yX11_bottom cX11_bottom 1 (some .long) 0 := ⟨v_r10 _ (List.mem_of_getElem? (i := 12) rfl), v_r10 _ (List.mem_of_getElem? (i := 13) rfl), v_r1 _ (List.mem_of_getElem? (i := 5) rfl), v_r10 _ (List.mem_of_getElem? (i := 14) rfl), by decide +kernel⟩
theorem KV_X11_bound : v_KV RX11 yX11_bound cX11_bound 5 (some .int) 2 := ⟨v_r72 _ (List.mem_of_getElem? (i := 16) rfl), v_r72 _ (List.mem_of_getElem? (i := 17) rfl), v_r1 _ (List.mem_of_getElem? (i := 5) rfl), v_r72 _ (List.mem_of_getElem? (i := 18) rfl), by decide +kernel⟩
theorem KV_X11_can : v_KV RX11 yX11_can cX11_can 3 (some .int) 2 := ⟨v_r50 _ (List.mem_of_getElem? (i := 0) rfl), v_r50 _ (List.mem_of_getElem? (i := 1) rfl), v_r1 _ (List.mem_of_getElem? (i := 5) rfl), v_r50 _ (List.mem_of_getElem? (i := 2) rfl), by decide +kernel⟩
theorem KV_X11_chance : v_KV RX11 yX11_chance cX11_chance 3 (some .int) 2 := ⟨v_r50 _ (List.mem_of_getElem? (i := 14) rfl), v_r50 _ (List.mem_of_getElem? (i := 15) rfl), v_r1 _ (List.mem_of_getElem? (i := 5) rfl), v_r50 _ (List.mem_of_getElem? (i := 16) rfl), by decide +kernel⟩
theorem KV_X11_charge : v_KV RX11 yX11_charge cX11_charge 4 (some .int) 3 := ⟨v_r43 _ (List.mem_of_getElem? (i := 9) rfl), v_r43 _ (List.mem_of_getElem? (i := 10) rfl), v_r1 _ (List.mem_of_getElem? (i := 5) rfl), v_r43 _ (List.mem_of_getElem? (i := 11) rfl), by decide +kernel⟩
theorem KV_X11_city : v_KV RX11 yX11_city cX11_city 2 (some .int) 1 := ⟨v_r24 _ (List.mem_of_getElem? (i := 17) rfl), v_r24 _ (List.mem_of_getElem? (i := 18) rfl), v_r1 _ (List.mem_of_getElem? (i := 5) rfl), v_r24 _ (List.mem_of_getElem? (i := 19) rfl), by decide +kernel⟩
theorem KV_X11_club : v_KV RX11 yX11_club cX11_club 8 (some .int) 1 := ⟨v_r68 _ (List.mem_of_getElem? (i := 12) rfl), v_r68 _ (List.mem_of_getElem? (i := 13) rfl), v_r1 _ (List.mem_of_getElem? (i := 5) rfl), v_r68 _ (List.mem_of_getElem? (i := 14) rfl), by decide +kernel⟩
theorem KV_X11_clubPart : v_KV RX11 yX11_clubPart cX11_clubPart 2 (some .boolean) 1 := ⟨v_r69 _ (List.mem_of_getElem? (i := 13) rfl), v_r69 _ (List.mem_of_getElem? (i := 14) rfl), v_r1 _ (List.mem_of_getElem? (i := 5) rfl), v_r69 _ (List.mem_of_getElem? (i := 15) rfl), by decide +kernel⟩
theorem KV_X11_commit : v_KV RX11 yX11_commit cX11_commit 5 (some .int) 3 := ⟨v_r47 _ (List.mem_of_getElem? (i := 14) rfl), v_r47 _ (List.mem_of_getElem? (i := 15) rfl), v_r1 _ (List.mem_of_getElem? (i := 5) rfl), v_r47 _ (List.mem_of_getElem? (i := 16) rfl), by decide +kernel⟩
theorem KV_X11_copyCoins : v_KV RX11 yX11_copyCoins cX11_copyCoins 3 (some .int) 1 := ⟨v_r41 _ (List.mem_of_getElem? (i := 14) rfl), v_r41 _ (List.mem_of_getElem? (i := 15) rfl), v_r1 _ (List.mem_of_getElem? (i := 5) rfl), v_r41 _ (List.mem_of_getElem? (i := 16) rfl), by decide +kernel⟩
theorem KV_X11_deed : v_KV RX11 yX11_deed cX11_deed 4 (some .int) 2 := ⟨v_r40 _ (List.mem_of_getElem? (i := 19) rfl), v_r40 _ (List.mem_of_getElem? (i := 20) rfl), v_r1 _ (List.mem_of_getElem? (i := 5) rfl), v_r40 _ (List.mem_of_getElem? (i := 21) rfl), by decide +kernel⟩
theorem KV_X11_dread : v_KV RX11 yX11_dread cX11_dread 2 (some .boolean) 1 := ⟨v_r60 _ (List.mem_of_getElem? (i := 7) rfl), v_r60 _ (List.mem_of_getElem? (i := 8) rfl), v_r1 _ (List.mem_of_getElem? (i := 5) rfl), v_r60 _ (List.mem_of_getElem? (i := 9) rfl), by decide +kernel⟩
theorem KV_X11_dreaded : v_KV RX11 yX11_dreaded cX11_dreaded 8 (some .int) 1 := ⟨v_r59 _ (List.mem_of_getElem? (i := 15) rfl), v_r59 _ (List.mem_of_getElem? (i := 16) rfl), v_r1 _ (List.mem_of_getElem? (i := 5) rfl), v_r59 _ (List.mem_of_getElem? (i := 17) rfl), by decide +kernel⟩
theorem KV_X11_drop : v_KV RX11 yX11_drop cX11_drop 4 (some .int) 3 := ⟨v_r47 _ (List.mem_of_getElem? (i := 1) rfl), v_r47 _ (List.mem_of_getElem? (i := 2) rfl), v_r1 _ (List.mem_of_getElem? (i := 5) rfl), v_r47 _ (List.mem_of_getElem? (i := 3) rfl), by decide +kernel⟩
theorem KV_X11_earn : v_KV RX11 yX11_earn cX11_earn 3 (some .int) 2 := ⟨v_r49 _ (List.mem_of_getElem? (i := 3) rfl), v_r49 _ (List.mem_of_getElem? (i := 4) rfl), v_r1 _ (List.mem_of_getElem? (i := 5) rfl), v_r49 _ (List.mem_of_getElem? (i := 5) rfl), by decide +kernel⟩
theorem KV_X11_fault : v_KV RX11 yX11_fault cX11_fault 2 (some .int) 1 := ⟨v_r36 _ (List.mem_of_getElem? (i := 16) rfl), v_r36 _ (List.mem_of_getElem? (i := 17) rfl), v_r1 _ (List.mem_of_getElem? (i := 5) rfl), v_r36 _ (List.mem_of_getElem? (i := 18) rfl), by decide +kernel⟩
theorem KV_X11_feed : v_KV RX11 yX11_feed cX11_feed 6 (some .int) 5 := ⟨v_r15 _ (List.mem_of_getElem? (i := 10) rfl), v_r15 _ (List.mem_of_getElem? (i := 11) rfl), v_r1 _ (List.mem_of_getElem? (i := 5) rfl), v_r15 _ (List.mem_of_getElem? (i := 12) rfl), by decide +kernel⟩
theorem KV_X11_friend : v_KV RX11 yX11_friend cX11_friend 6 (some .int) 1 := ⟨v_r60 _ (List.mem_of_getElem? (i := 23) rfl), v_r61 _ (List.mem_of_getElem? (i := 0) rfl), v_r1 _ (List.mem_of_getElem? (i := 5) rfl), v_r61 _ (List.mem_of_getElem? (i := 1) rfl), by decide +kernel⟩
theorem KV_X11_gain : v_KV RX11 yX11_gain cX11_gain 3 (some .boolean) 2 := ⟨v_r55 _ (List.mem_of_getElem? (i := 16) rfl), v_r55 _ (List.mem_of_getElem? (i := 17) rfl), v_r1 _ (List.mem_of_getElem? (i := 5) rfl), v_r55 _ (List.mem_of_getElem? (i := 18) rfl), by decide +kernel⟩
theorem KV_X11_gained : v_KV RX11 yX11_gained cX11_gained 3 (some .int) 2 := ⟨v_r71 _ (List.mem_of_getElem? (i := 6) rfl), v_r71 _ (List.mem_of_getElem? (i := 7) rfl), v_r1 _ (List.mem_of_getElem? (i := 5) rfl), v_r71 _ (List.mem_of_getElem? (i := 8) rfl), by decide +kernel⟩
theorem KV_X11_game : v_KV RX11 yX11_game cX11_game 4 (some .boolean) 3 := ⟨v_r66 _ (List.mem_of_getElem? (i := 1) rfl), v_r66 _ (List.mem_of_getElem? (i := 2) rfl), v_r1 _ (List.mem_of_getElem? (i := 5) rfl), v_r66 _ (List.mem_of_getElem? (i := 3) rfl), by decide +kernel⟩
theorem KV_X11_gladBy : v_KV RX11 yX11_gladBy cX11_gladBy 7 (some .int) 2 := ⟨v_r64 _ (List.mem_of_getElem? (i := 16) rfl), v_r64 _ (List.mem_of_getElem? (i := 17) rfl), v_r1 _ (List.mem_of_getElem? (i := 5) rfl), v_r64 _ (List.mem_of_getElem? (i := 18) rfl), by decide +kernel⟩
theorem KV_X11_hear : v_KV RX11 yX11_hear cX11_hear 5 (some .int) 3 := ⟨v_r45 _ (List.mem_of_getElem? (i := 17) rfl), v_r45 _ (List.mem_of_getElem? (i := 18) rfl), v_r1 _ (List.mem_of_getElem? (i := 5) rfl), v_r45 _ (List.mem_of_getElem? (i := 19) rfl), by decide +kernel⟩
theorem KV_X11_leastFine : v_KV RX11 yX11_leastFine cX11_leastFine 2 (some .int) 1 := ⟨v_r63 _ (List.mem_of_getElem? (i := 20) rfl), v_r63 _ (List.mem_of_getElem? (i := 21) rfl), v_r1 _ (List.mem_of_getElem? (i := 5) rfl), v_r63 _ (List.mem_of_getElem? (i := 22) rfl), by decide +kernel⟩
theorem KV_X11_leastShare : v_KV RX11 yX11_leastShare cX11_leastShare 2 (some .int) 1 := ⟨v_r63 _ (List.mem_of_getElem? (i := 4) rfl), v_r63 _ (List.mem_of_getElem? (i := 5) rfl), v_r1 _ (List.mem_of_getElem? (i := 5) rfl), v_r63 _ (List.mem_of_getElem? (i := 6) rfl), by decide +kernel⟩
theorem KV_X11_live : v_KV RX11 yX11_live cX11_live 2 (some .int) 1 := ⟨v_r75 _ (List.mem_of_getElem? (i := 6) rfl), v_r75 _ (List.mem_of_getElem? (i := 7) rfl), v_r1 _ (List.mem_of_getElem? (i := 5) rfl), v_r75 _ (List.mem_of_getElem? (i := 8) rfl), by decide +kernel⟩
theorem KV_X11_lived : v_KV RX11 yX11_lived cX11_lived 2 (some .int) 1 := ⟨v_r77 _ (List.mem_of_getElem? (i := 2) rfl), v_r77 _ (List.mem_of_getElem? (i := 3) rfl), v_r1 _ (List.mem_of_getElem? (i := 5) rfl), v_r77 _ (List.mem_of_getElem? (i := 4) rfl), by decide +kernel⟩
theorem KV_X11_loss : v_KV RX11 yX11_loss cX11_loss 3 (some .boolean) 2 := ⟨v_r56 _ (List.mem_of_getElem? (i := 8) rfl), v_r56 _ (List.mem_of_getElem? (i := 9) rfl), v_r1 _ (List.mem_of_getElem? (i := 5) rfl), v_r56 _ (List.mem_of_getElem? (i := 10) rfl), by decide +kernel⟩
theorem KV_X11_many : v_KV RX11 yX11_many cX11_many 2 (some .int) 1 := ⟨v_r37 _ (List.mem_of_getElem? (i := 20) rfl), v_r37 _ (List.mem_of_getElem? (i := 21) rfl), v_r1 _ (List.mem_of_getElem? (i := 5) rfl), v_r37 _ (List.mem_of_getElem? (i := 22) rfl), by decide +kernel⟩
theorem KV_X11_mark : v_KV RX11 yX11_mark cX11_mark 1 (some .int) 0 := ⟨v_r77 _ (List.mem_of_getElem? (i := 22) rfl), v_r77 _ (List.mem_of_getElem? (i := 23) rfl), v_r1 _ (List.mem_of_getElem? (i := 5) rfl), v_r78 _ (List.mem_of_getElem? (i := 0) rfl), by decide +kernel⟩
theorem KV_X11_mean : v_KV RX11 yX11_mean cX11_mean 7 (some .boolean) 2 := ⟨v_r77 _ (List.mem_of_getElem? (i := 12) rfl), v_r77 _ (List.mem_of_getElem? (i := 13) rfl), v_r1 _ (List.mem_of_getElem? (i := 5) rfl), v_r77 _ (List.mem_of_getElem? (i := 14) rfl), by decide +kernel⟩
theorem KV_X11_mostPenalty : v_KV RX11 yX11_mostPenalty cX11_mostPenalty 2 (some .int) 1 := ⟨v_r64 _ (List.mem_of_getElem? (i := 8) rfl), v_r64 _ (List.mem_of_getElem? (i := 9) rfl), v_r1 _ (List.mem_of_getElem? (i := 5) rfl), v_r64 _ (List.mem_of_getElem? (i := 10) rfl), by decide +kernel⟩
theorem KV_X11_moveOf : v_KV RX11 yX11_moveOf cX11_moveOf 4 (some .int) 3 := ⟨v_r66 _ (List.mem_of_getElem? (i := 23) rfl), v_r67 _ (List.mem_of_getElem? (i := 0) rfl), v_r1 _ (List.mem_of_getElem? (i := 5) rfl), v_r67 _ (List.mem_of_getElem? (i := 1) rfl), by decide +kernel⟩
theorem KV_X11_owes : v_KV RX11 yX11_owes cX11_owes 3 (some .boolean) 2 := ⟨v_r53 _ (List.mem_of_getElem? (i := 19) rfl), v_r53 _ (List.mem_of_getElem? (i := 20) rfl), v_r1 _ (List.mem_of_getElem? (i := 5) rfl), v_r53 _ (List.mem_of_getElem? (i := 21) rfl), by decide +kernel⟩
theorem KV_X11_person : v_KV RX11 yX11_person cX11_person 3 (some .int) 2 := ⟨v_r39 _ (List.mem_of_getElem? (i := 13) rfl), v_r39 _ (List.mem_of_getElem? (i := 14) rfl), v_r1 _ (List.mem_of_getElem? (i := 5) rfl), v_r39 _ (List.mem_of_getElem? (i := 15) rfl), by decide +kernel⟩
theorem KV_X11_plan : v_KV RX11 yX11_plan cX11_plan 8 (some .boolean) 2 := ⟨v_r58 _ (List.mem_of_getElem? (i := 8) rfl), v_r58 _ (List.mem_of_getElem? (i := 9) rfl), v_r1 _ (List.mem_of_getElem? (i := 5) rfl), v_r58 _ (List.mem_of_getElem? (i := 10) rfl), by decide +kernel⟩
theorem KV_X11_pour : v_KV RX11 yX11_pour cX11_pour 9 (some .boolean) 5 := ⟨v_r14 _ (List.mem_of_getElem? (i := 16) rfl), v_r14 _ (List.mem_of_getElem? (i := 17) rfl), v_r1 _ (List.mem_of_getElem? (i := 5) rfl), v_r14 _ (List.mem_of_getElem? (i := 18) rfl), by decide +kernel⟩
theorem KV_X11_quiet : v_KV RX11 yX11_quiet cX11_quiet 3 (some .int) 0 := ⟨v_r61 _ (List.mem_of_getElem? (i := 19) rfl), v_r61 _ (List.mem_of_getElem? (i := 20) rfl), v_r1 _ (List.mem_of_getElem? (i := 5) rfl), v_r61 _ (List.mem_of_getElem? (i := 21) rfl), by decide +kernel⟩
theorem KV_X11_read : v_KV RX11 yX11_read cX11_read 3 (some .long) 2 := ⟨v_r13 _ (List.mem_of_getElem? (i := 18) rfl), v_r13 _ (List.mem_of_getElem? (i := 19) rfl), v_r1 _ (List.mem_of_getElem? (i := 5) rfl), v_r13 _ (List.mem_of_getElem? (i := 20) rfl), by decide +kernel⟩
theorem KV_X11_reopen : v_KV RX11 yX11_reopen cX11_reopen 2 (some .boolean) 1 := ⟨v_r48 _ (List.mem_of_getElem? (i := 8) rfl), v_r48 _ (List.mem_of_getElem? (i := 9) rfl), v_r1 _ (List.mem_of_getElem? (i := 5) rfl), v_r48 _ (List.mem_of_getElem? (i := 10) rfl), by decide +kernel⟩
theorem KV_X11_rule : v_KV RX11 yX11_rule cX11_rule 4 (some .boolean) 2 := ⟨v_r49 _ (List.mem_of_getElem? (i := 15) rfl), v_r49 _ (List.mem_of_getElem? (i := 16) rfl), v_r1 _ (List.mem_of_getElem? (i := 5) rfl), v_r49 _ (List.mem_of_getElem? (i := 17) rfl), by decide +kernel⟩
theorem KV_X11_status : v_KV RX11 yX11_status cX11_status 1 (some .int) 0 := ⟨v_r9 _ (List.mem_of_getElem? (i := 16) rfl), v_r9 _ (List.mem_of_getElem? (i := 17) rfl), v_r1 _ (List.mem_of_getElem? (i := 5) rfl), v_r9 _ (List.mem_of_getElem? (i := 18) rfl), by decide +kernel⟩
theorem KV_X11_sure : v_KV RX11 yX11_sure cX11_sure 3 (some .int) 2 := ⟨v_r72 _ (List.mem_of_getElem? (i := 0) rfl), v_r72 _ (List.mem_of_getElem? (i := 1) rfl), v_r1 _ (List.mem_of_getElem? (i := 5) rfl), v_r72 _ (List.mem_of_getElem? (i := 2) rfl), by decide +kernel⟩
theorem KV_X11_top : v_KV RX11 yX11_top cX11_top 1 (some .long) 0 := ⟨v_r10 _ (List.mem_of_getElem? (i := 3) rfl), v_r10 _ (List.mem_of_getElem? (i := 4) rfl), v_r1 _ (List.mem_of_getElem? (i := 5) rfl), v_r10 _ (List.mem_of_getElem? (i := 5) rfl), by decide +kernel⟩
theorem KV_X11_trade : v_KV RX11 yX11_trade cX11_trade 10 (some .int) 3 := ⟨v_r62 _ (List.mem_of_getElem? (i := 16) rfl), v_r62 _ (List.mem_of_getElem? (i := 17) rfl), v_r1 _ (List.mem_of_getElem? (i := 5) rfl), v_r62 _ (List.mem_of_getElem? (i := 18) rfl), by decide +kernel⟩
theorem KV_X11_train : v_KV RX11 yX11_train cX11_train 3 (some .boolean) 2 := ⟨v_r48 _ (List.mem_of_getElem? (i := 18) rfl), v_r48 _ (List.mem_of_getElem? (i := 19) rfl), v_r1 _ (List.mem_of_getElem? (i := 5) rfl), v_r48 _ (List.mem_of_getElem? (i := 20) rfl), by decide +kernel⟩
theorem KV_X11_tray : v_KV RX11 yX11_tray cX11_tray 5 (some .boolean) 3 := ⟨v_r11 _ (List.mem_of_getElem? (i := 11) rfl), v_r11 _ (List.mem_of_getElem? (i := 12) rfl), v_r1 _ (List.mem_of_getElem? (i := 5) rfl), v_r11 _ (List.mem_of_getElem? (i := 13) rfl), by decide +kernel⟩
theorem KV_X11_votes : v_KV RX11 yX11_votes cX11_votes 4 (some .boolean) 3 := ⟨v_r51 _ (List.mem_of_getElem? (i := 22) rfl), v_r51 _ (List.mem_of_getElem? (i := 23) rfl), v_r1 _ (List.mem_of_getElem? (i := 5) rfl), v_r52 _ (List.mem_of_getElem? (i := 0) rfl), by decide +kernel⟩
theorem KV_X11_wins : v_KV RX11 yX11_wins cX11_wins 3 (some .boolean) 2 := ⟨v_r52 _ (List.mem_of_getElem? (i := 23) rfl), v_r53 _ (List.mem_of_getElem? (i := 0) rfl), v_r1 _ (List.mem_of_getElem? (i := 5) rfl), v_r53 _ (List.mem_of_getElem? (i := 1) rfl), by decide +kernel⟩
theorem KV_X11_years : v_KV RX11 yX11_years cX11_years 3 (some .int) 1 := ⟨v_r35 _ (List.mem_of_getElem? (i := 19) rfl), v_r35 _ (List.mem_of_getElem? (i := 20) rfl), v_r1 _ (List.mem_of_getElem? (i := 5) rfl), v_r35 _ (List.mem_of_getElem? (i := 21) rfl), by decide +kernel⟩
def p_law_1939 (L : Nat) (xs : Nat → Int32)   (K18 : vSt → Int32 → Prop) (post : Unit) (S : vSt) (x3 : Int32) : Prop := ∀ y222 : Int32, y222 = x3 + 6 → K18 S y222
def p_law_264 (L : Nat) (xs : Nat → Int32)   (K18 : vSt → Int32 → Prop) (post : Unit) (S : vSt) (x3 : Int32) : Prop := p_X10_status  S  (fun r219 S218 => p_X11_status  S218  (fun r221 S220 => ((r219 = r221 → p_law_1939 L xs K18 post S220 x3) ∧ (¬ r219 = r221 → False))))
def p_law_277 (L : Nat) (xs : Nat → Int32)   (K18 : vSt → Int32 → Prop) (post : Unit) (S : vSt) (x3 : Int32) : Prop := p_X10_top  S  (fun r219 S218 => p_X11_top  S218  (fun r221 S220 => ((r219 = r221 → p_law_1939 L xs K18 post S220 x3) ∧ (¬ r219 = r221 → False))))
def p_law_291 (L : Nat) (xs : Nat → Int32)   (K18 : vSt → Int32 → Prop) (post : Unit) (S : vSt) (x3 : Int32) : Prop := p_X10_bottom  S  (fun r219 S218 => p_X11_bottom  S218  (fun r221 S220 => ((r219 = r221 → p_law_1939 L xs K18 post S220 x3) ∧ (¬ r219 = r221 → False))))
def p_law_305 (L : Nat) (xs : Nat → Int32)   (K18 : vSt → Int32 → Prop) (post : Unit) (S : vSt) (x3 : Int32) : Prop := (vp_in (x3 + 1) L ∧ (vp_in (x3 + 2) L ∧ (vp_in (x3 + 3) L ∧ p_X10_tray  S (xs (Int32.toNatClampNeg (x3 + 1))) (xs (Int32.toNatClampNeg (x3 + 2))) (xs (Int32.toNatClampNeg (x3 + 3))) (fun r219 S218 => (vp_in (x3 + 1) L ∧ (vp_in (x3 + 2) L ∧ (vp_in (x3 + 3) L ∧ p_X11_tray  S218 (xs (Int32.toNatClampNeg (x3 + 1))) (xs (Int32.toNatClampNeg (x3 + 2))) (xs (Int32.toNatClampNeg (x3 + 3))) (fun r221 S220 => (((v_b r219) = (v_b r221) → p_law_1939 L xs K18 post S220 x3) ∧ (¬ (v_b r219) = (v_b r221) → False))))))))))
def p_law_348 (L : Nat) (xs : Nat → Int32)   (K18 : vSt → Int32 → Prop) (post : Unit) (S : vSt) (x3 : Int32) : Prop := (vp_in (x3 + 1) L ∧ (vp_in (x3 + 2) L ∧ (vp_in (x3 + 3) L ∧ (vp_in (x3 + 4) L ∧ p_X10_write  S (xs (Int32.toNatClampNeg (x3 + 1))) (xs (Int32.toNatClampNeg (x3 + 2))) (((Int32.toInt64 (xs (Int32.toNatClampNeg (x3 + 3)))) <<< ((Int32.toInt64 32) &&& 63)) ||| ((Int32.toInt64 (xs (Int32.toNatClampNeg (x3 + 4)))) &&& 4294967295)) (fun r219 S218 => (vp_in (x3 + 1) L ∧ (vp_in (x3 + 2) L ∧ (vp_in (x3 + 3) L ∧ (vp_in (x3 + 4) L ∧ p_X11_write  S218 (xs (Int32.toNatClampNeg (x3 + 1))) (xs (Int32.toNatClampNeg (x3 + 2))) (((Int32.toInt64 (xs (Int32.toNatClampNeg (x3 + 3)))) <<< ((Int32.toInt64 32) &&& 63)) ||| ((Int32.toInt64 (xs (Int32.toNatClampNeg (x3 + 4)))) &&& 4294967295)) (fun r221 S220 => (((v_b r219) = (v_b r221) → p_law_1939 L xs K18 post S220 x3) ∧ (¬ (v_b r219) = (v_b r221) → False))))))))))))
def p_law_421 (L : Nat) (xs : Nat → Int32)   (K18 : vSt → Int32 → Prop) (post : Unit) (S : vSt) (x3 : Int32) : Prop := (vp_in (x3 + 1) L ∧ (vp_in (x3 + 2) L ∧ p_X10_read  S (xs (Int32.toNatClampNeg (x3 + 1))) (xs (Int32.toNatClampNeg (x3 + 2))) (fun r219 S218 => (vp_in (x3 + 1) L ∧ (vp_in (x3 + 2) L ∧ p_X11_read  S218 (xs (Int32.toNatClampNeg (x3 + 1))) (xs (Int32.toNatClampNeg (x3 + 2))) (fun r221 S220 => ((r219 = r221 → p_law_1939 L xs K18 post S220 x3) ∧ (¬ r219 = r221 → False))))))))
def p_law_455 (L : Nat) (xs : Nat → Int32)   (K18 : vSt → Int32 → Prop) (post : Unit) (S : vSt) (x3 : Int32) : Prop := (vp_in (x3 + 1) L ∧ (vp_in (x3 + 2) L ∧ (vp_in (x3 + 3) L ∧ (vp_in (x3 + 4) L ∧ (vp_in (x3 + 5) L ∧ p_X10_pour  S (xs (Int32.toNatClampNeg (x3 + 1))) (xs (Int32.toNatClampNeg (x3 + 2))) (xs (Int32.toNatClampNeg (x3 + 3))) (xs (Int32.toNatClampNeg (x3 + 4))) (xs (Int32.toNatClampNeg (x3 + 5))) (fun r219 S218 => (vp_in (x3 + 1) L ∧ (vp_in (x3 + 2) L ∧ (vp_in (x3 + 3) L ∧ (vp_in (x3 + 4) L ∧ (vp_in (x3 + 5) L ∧ p_X11_pour  S218 (xs (Int32.toNatClampNeg (x3 + 1))) (xs (Int32.toNatClampNeg (x3 + 2))) (xs (Int32.toNatClampNeg (x3 + 3))) (xs (Int32.toNatClampNeg (x3 + 4))) (xs (Int32.toNatClampNeg (x3 + 5))) (fun r221 S220 => (((v_b r219) = (v_b r221) → p_law_1939 L xs K18 post S220 x3) ∧ (¬ (v_b r219) = (v_b r221) → False))))))))))))))
def p_law_518 (L : Nat) (xs : Nat → Int32)   (K18 : vSt → Int32 → Prop) (post : Unit) (S : vSt) (x3 : Int32) : Prop := (vp_in (x3 + 1) L ∧ (vp_in (x3 + 2) L ∧ (vp_in (x3 + 3) L ∧ (vp_in (x3 + 4) L ∧ (vp_in (x3 + 5) L ∧ p_X10_feed  S (xs (Int32.toNatClampNeg (x3 + 1))) (xs (Int32.toNatClampNeg (x3 + 2))) (xs (Int32.toNatClampNeg (x3 + 3))) (xs (Int32.toNatClampNeg (x3 + 4))) (xs (Int32.toNatClampNeg (x3 + 5))) (fun r219 S218 => (vp_in (x3 + 1) L ∧ (vp_in (x3 + 2) L ∧ (vp_in (x3 + 3) L ∧ (vp_in (x3 + 4) L ∧ (vp_in (x3 + 5) L ∧ p_X11_feed  S218 (xs (Int32.toNatClampNeg (x3 + 1))) (xs (Int32.toNatClampNeg (x3 + 2))) (xs (Int32.toNatClampNeg (x3 + 3))) (xs (Int32.toNatClampNeg (x3 + 4))) (xs (Int32.toNatClampNeg (x3 + 5))) (fun r221 S220 => ((r219 = r221 → p_law_1939 L xs K18 post S220 x3) ∧ (¬ r219 = r221 → False))))))))))))))
def p_law_581 (L : Nat) (xs : Nat → Int32)   (K18 : vSt → Int32 → Prop) (post : Unit) (S : vSt) (x3 : Int32) : Prop := (vp_in (x3 + 1) L ∧ p_X10_city  S (xs (Int32.toNatClampNeg (x3 + 1))) (fun r219 S218 => (vp_in (x3 + 1) L ∧ p_X11_city  S218 (xs (Int32.toNatClampNeg (x3 + 1))) (fun r221 S220 => ((r219 = r221 → p_law_1939 L xs K18 post S220 x3) ∧ (¬ r219 = r221 → False))))))
def p_law_604 (L : Nat) (xs : Nat → Int32)   (K18 : vSt → Int32 → Prop) (post : Unit) (S : vSt) (x3 : Int32) : Prop := (vp_in (x3 + 1) L ∧ p_X10_years  S (xs (Int32.toNatClampNeg (x3 + 1))) (fun r219 S218 => (vp_in (x3 + 1) L ∧ p_X11_years  S218 (xs (Int32.toNatClampNeg (x3 + 1))) (fun r221 S220 => ((r219 = r221 → p_law_1939 L xs K18 post S220 x3) ∧ (¬ r219 = r221 → False))))))
def p_law_627 (L : Nat) (xs : Nat → Int32)   (K18 : vSt → Int32 → Prop) (post : Unit) (S : vSt) (x3 : Int32) : Prop := (vp_in (x3 + 1) L ∧ p_X10_fault  S (xs (Int32.toNatClampNeg (x3 + 1))) (fun r219 S218 => (vp_in (x3 + 1) L ∧ p_X11_fault  S218 (xs (Int32.toNatClampNeg (x3 + 1))) (fun r221 S220 => ((r219 = r221 → p_law_1939 L xs K18 post S220 x3) ∧ (¬ r219 = r221 → False))))))
def p_law_650 (L : Nat) (xs : Nat → Int32)   (K18 : vSt → Int32 → Prop) (post : Unit) (S : vSt) (x3 : Int32) : Prop := (vp_in (x3 + 1) L ∧ p_X10_many  S (xs (Int32.toNatClampNeg (x3 + 1))) (fun r219 S218 => (vp_in (x3 + 1) L ∧ p_X11_many  S218 (xs (Int32.toNatClampNeg (x3 + 1))) (fun r221 S220 => ((r219 = r221 → p_law_1939 L xs K18 post S220 x3) ∧ (¬ r219 = r221 → False))))))
def p_law_673 (L : Nat) (xs : Nat → Int32)   (K18 : vSt → Int32 → Prop) (post : Unit) (S : vSt) (x3 : Int32) : Prop := (vp_in (x3 + 1) L ∧ (vp_in (x3 + 2) L ∧ p_X10_person  S (xs (Int32.toNatClampNeg (x3 + 1))) (xs (Int32.toNatClampNeg (x3 + 2))) (fun r219 S218 => (vp_in (x3 + 1) L ∧ (vp_in (x3 + 2) L ∧ p_X11_person  S218 (xs (Int32.toNatClampNeg (x3 + 1))) (xs (Int32.toNatClampNeg (x3 + 2))) (fun r221 S220 => ((r219 = r221 → p_law_1939 L xs K18 post S220 x3) ∧ (¬ r219 = r221 → False))))))))
def p_law_706 (L : Nat) (xs : Nat → Int32)   (K18 : vSt → Int32 → Prop) (post : Unit) (S : vSt) (x3 : Int32) : Prop := (vp_in (x3 + 1) L ∧ (vp_in (x3 + 2) L ∧ p_X10_deed  S (xs (Int32.toNatClampNeg (x3 + 1))) (xs (Int32.toNatClampNeg (x3 + 2))) (fun r219 S218 => (vp_in (x3 + 1) L ∧ (vp_in (x3 + 2) L ∧ p_X11_deed  S218 (xs (Int32.toNatClampNeg (x3 + 1))) (xs (Int32.toNatClampNeg (x3 + 2))) (fun r221 S220 => ((r219 = r221 → p_law_1939 L xs K18 post S220 x3) ∧ (¬ r219 = r221 → False))))))))
def p_law_739 (L : Nat) (xs : Nat → Int32)   (K18 : vSt → Int32 → Prop) (post : Unit) (S : vSt) (x3 : Int32) : Prop := (vp_in (x3 + 1) L ∧ p_X10_copyCoins  S (xs (Int32.toNatClampNeg (x3 + 1))) (fun r219 S218 => (vp_in (x3 + 1) L ∧ p_X11_copyCoins  S218 (xs (Int32.toNatClampNeg (x3 + 1))) (fun r221 S220 => ((r219 = r221 → p_law_1939 L xs K18 post S220 x3) ∧ (¬ r219 = r221 → False))))))
def p_law_762 (L : Nat) (xs : Nat → Int32)   (K18 : vSt → Int32 → Prop) (post : Unit) (S : vSt) (x3 : Int32) : Prop := (vp_in (x3 + 1) L ∧ (vp_in (x3 + 2) L ∧ (vp_in (x3 + 3) L ∧ p_X10_charge  S (xs (Int32.toNatClampNeg (x3 + 1))) (xs (Int32.toNatClampNeg (x3 + 2))) (xs (Int32.toNatClampNeg (x3 + 3))) (fun r219 S218 => (vp_in (x3 + 1) L ∧ (vp_in (x3 + 2) L ∧ (vp_in (x3 + 3) L ∧ p_X11_charge  S218 (xs (Int32.toNatClampNeg (x3 + 1))) (xs (Int32.toNatClampNeg (x3 + 2))) (xs (Int32.toNatClampNeg (x3 + 3))) (fun r221 S220 => ((r219 = r221 → p_law_1939 L xs K18 post S220 x3) ∧ (¬ r219 = r221 → False))))))))))
def p_law_805 (L : Nat) (xs : Nat → Int32)   (K18 : vSt → Int32 → Prop) (post : Unit) (S : vSt) (x3 : Int32) : Prop := (vp_in (x3 + 1) L ∧ (vp_in (x3 + 2) L ∧ (vp_in (x3 + 3) L ∧ p_X10_hear  S (xs (Int32.toNatClampNeg (x3 + 1))) (xs (Int32.toNatClampNeg (x3 + 2))) (xs (Int32.toNatClampNeg (x3 + 3))) (fun r219 S218 => (vp_in (x3 + 1) L ∧ (vp_in (x3 + 2) L ∧ (vp_in (x3 + 3) L ∧ p_X11_hear  S218 (xs (Int32.toNatClampNeg (x3 + 1))) (xs (Int32.toNatClampNeg (x3 + 2))) (xs (Int32.toNatClampNeg (x3 + 3))) (fun r221 S220 => ((r219 = r221 → p_law_1939 L xs K18 post S220 x3) ∧ (¬ r219 = r221 → False))))))))))
def p_law_848 (L : Nat) (xs : Nat → Int32)   (K18 : vSt → Int32 → Prop) (post : Unit) (S : vSt) (x3 : Int32) : Prop := (vp_in (x3 + 1) L ∧ (vp_in (x3 + 2) L ∧ (vp_in (x3 + 3) L ∧ p_X10_drop  S (xs (Int32.toNatClampNeg (x3 + 1))) (xs (Int32.toNatClampNeg (x3 + 2))) (xs (Int32.toNatClampNeg (x3 + 3))) (fun r219 S218 => (vp_in (x3 + 1) L ∧ (vp_in (x3 + 2) L ∧ (vp_in (x3 + 3) L ∧ p_X11_drop  S218 (xs (Int32.toNatClampNeg (x3 + 1))) (xs (Int32.toNatClampNeg (x3 + 2))) (xs (Int32.toNatClampNeg (x3 + 3))) (fun r221 S220 => ((r219 = r221 → p_law_1939 L xs K18 post S220 x3) ∧ (¬ r219 = r221 → False))))))))))
def p_law_891 (L : Nat) (xs : Nat → Int32)   (K18 : vSt → Int32 → Prop) (post : Unit) (S : vSt) (x3 : Int32) : Prop := (vp_in (x3 + 1) L ∧ (vp_in (x3 + 2) L ∧ (vp_in (x3 + 3) L ∧ p_X10_commit  S (xs (Int32.toNatClampNeg (x3 + 1))) (xs (Int32.toNatClampNeg (x3 + 2))) (xs (Int32.toNatClampNeg (x3 + 3))) (fun r219 S218 => (vp_in (x3 + 1) L ∧ (vp_in (x3 + 2) L ∧ (vp_in (x3 + 3) L ∧ p_X11_commit  S218 (xs (Int32.toNatClampNeg (x3 + 1))) (xs (Int32.toNatClampNeg (x3 + 2))) (xs (Int32.toNatClampNeg (x3 + 3))) (fun r221 S220 => ((r219 = r221 → p_law_1939 L xs K18 post S220 x3) ∧ (¬ r219 = r221 → False))))))))))
def p_law_934 (L : Nat) (xs : Nat → Int32)   (K18 : vSt → Int32 → Prop) (post : Unit) (S : vSt) (x3 : Int32) : Prop := (vp_in (x3 + 1) L ∧ p_X10_reopen  S (xs (Int32.toNatClampNeg (x3 + 1))) (fun r219 S218 => (vp_in (x3 + 1) L ∧ p_X11_reopen  S218 (xs (Int32.toNatClampNeg (x3 + 1))) (fun r221 S220 => (((v_b r219) = (v_b r221) → p_law_1939 L xs K18 post S220 x3) ∧ (¬ (v_b r219) = (v_b r221) → False))))))
def p_law_957 (L : Nat) (xs : Nat → Int32)   (K18 : vSt → Int32 → Prop) (post : Unit) (S : vSt) (x3 : Int32) : Prop := (vp_in (x3 + 1) L ∧ (vp_in (x3 + 2) L ∧ p_X10_train  S (xs (Int32.toNatClampNeg (x3 + 1))) (xs (Int32.toNatClampNeg (x3 + 2))) (fun r219 S218 => (vp_in (x3 + 1) L ∧ (vp_in (x3 + 2) L ∧ p_X11_train  S218 (xs (Int32.toNatClampNeg (x3 + 1))) (xs (Int32.toNatClampNeg (x3 + 2))) (fun r221 S220 => (((v_b r219) = (v_b r221) → p_law_1939 L xs K18 post S220 x3) ∧ (¬ (v_b r219) = (v_b r221) → False))))))))
def p_law_990 (L : Nat) (xs : Nat → Int32)   (K18 : vSt → Int32 → Prop) (post : Unit) (S : vSt) (x3 : Int32) : Prop := (vp_in (x3 + 1) L ∧ (vp_in (x3 + 2) L ∧ p_X10_earn  S (xs (Int32.toNatClampNeg (x3 + 1))) (xs (Int32.toNatClampNeg (x3 + 2))) (fun r219 S218 => (vp_in (x3 + 1) L ∧ (vp_in (x3 + 2) L ∧ p_X11_earn  S218 (xs (Int32.toNatClampNeg (x3 + 1))) (xs (Int32.toNatClampNeg (x3 + 2))) (fun r221 S220 => ((r219 = r221 → p_law_1939 L xs K18 post S220 x3) ∧ (¬ r219 = r221 → False))))))))
def p_law_1023 (L : Nat) (xs : Nat → Int32)   (K18 : vSt → Int32 → Prop) (post : Unit) (S : vSt) (x3 : Int32) : Prop := (vp_in (x3 + 1) L ∧ (vp_in (x3 + 2) L ∧ p_X10_rule  S (xs (Int32.toNatClampNeg (x3 + 1))) (xs (Int32.toNatClampNeg (x3 + 2))) (fun r219 S218 => (vp_in (x3 + 1) L ∧ (vp_in (x3 + 2) L ∧ p_X11_rule  S218 (xs (Int32.toNatClampNeg (x3 + 1))) (xs (Int32.toNatClampNeg (x3 + 2))) (fun r221 S220 => (((v_b r219) = (v_b r221) → p_law_1939 L xs K18 post S220 x3) ∧ (¬ (v_b r219) = (v_b r221) → False))))))))
def p_law_1056 (L : Nat) (xs : Nat → Int32)   (K18 : vSt → Int32 → Prop) (post : Unit) (S : vSt) (x3 : Int32) : Prop := (vp_in (x3 + 1) L ∧ (vp_in (x3 + 2) L ∧ p_X10_can  S (xs (Int32.toNatClampNeg (x3 + 1))) (xs (Int32.toNatClampNeg (x3 + 2))) (fun r219 S218 => (vp_in (x3 + 1) L ∧ (vp_in (x3 + 2) L ∧ p_X11_can  S218 (xs (Int32.toNatClampNeg (x3 + 1))) (xs (Int32.toNatClampNeg (x3 + 2))) (fun r221 S220 => ((r219 = r221 → p_law_1939 L xs K18 post S220 x3) ∧ (¬ r219 = r221 → False))))))))
def p_law_1089 (L : Nat) (xs : Nat → Int32)   (K18 : vSt → Int32 → Prop) (post : Unit) (S : vSt) (x3 : Int32) : Prop := (vp_in (x3 + 1) L ∧ (vp_in (x3 + 2) L ∧ p_X10_chance  S (xs (Int32.toNatClampNeg (x3 + 1))) (xs (Int32.toNatClampNeg (x3 + 2))) (fun r219 S218 => (vp_in (x3 + 1) L ∧ (vp_in (x3 + 2) L ∧ p_X11_chance  S218 (xs (Int32.toNatClampNeg (x3 + 1))) (xs (Int32.toNatClampNeg (x3 + 2))) (fun r221 S220 => ((r219 = r221 → p_law_1939 L xs K18 post S220 x3) ∧ (¬ r219 = r221 → False))))))))
def p_law_1122 (L : Nat) (xs : Nat → Int32)   (K18 : vSt → Int32 → Prop) (post : Unit) (S : vSt) (x3 : Int32) : Prop := (vp_in (x3 + 1) L ∧ (vp_in (x3 + 2) L ∧ (vp_in (x3 + 3) L ∧ p_X10_votes  S (xs (Int32.toNatClampNeg (x3 + 1))) (xs (Int32.toNatClampNeg (x3 + 2))) (xs (Int32.toNatClampNeg (x3 + 3))) (fun r219 S218 => (vp_in (x3 + 1) L ∧ (vp_in (x3 + 2) L ∧ (vp_in (x3 + 3) L ∧ p_X11_votes  S218 (xs (Int32.toNatClampNeg (x3 + 1))) (xs (Int32.toNatClampNeg (x3 + 2))) (xs (Int32.toNatClampNeg (x3 + 3))) (fun r221 S220 => (((v_b r219) = (v_b r221) → p_law_1939 L xs K18 post S220 x3) ∧ (¬ (v_b r219) = (v_b r221) → False))))))))))
def p_law_1165 (L : Nat) (xs : Nat → Int32)   (K18 : vSt → Int32 → Prop) (post : Unit) (S : vSt) (x3 : Int32) : Prop := (vp_in (x3 + 1) L ∧ (vp_in (x3 + 2) L ∧ p_X10_wins  S (xs (Int32.toNatClampNeg (x3 + 1))) (xs (Int32.toNatClampNeg (x3 + 2))) (fun r219 S218 => (vp_in (x3 + 1) L ∧ (vp_in (x3 + 2) L ∧ p_X11_wins  S218 (xs (Int32.toNatClampNeg (x3 + 1))) (xs (Int32.toNatClampNeg (x3 + 2))) (fun r221 S220 => (((v_b r219) = (v_b r221) → p_law_1939 L xs K18 post S220 x3) ∧ (¬ (v_b r219) = (v_b r221) → False))))))))
def p_law_1198 (L : Nat) (xs : Nat → Int32)   (K18 : vSt → Int32 → Prop) (post : Unit) (S : vSt) (x3 : Int32) : Prop := (vp_in (x3 + 1) L ∧ (vp_in (x3 + 2) L ∧ p_X10_owes  S (xs (Int32.toNatClampNeg (x3 + 1))) (xs (Int32.toNatClampNeg (x3 + 2))) (fun r219 S218 => (vp_in (x3 + 1) L ∧ (vp_in (x3 + 2) L ∧ p_X11_owes  S218 (xs (Int32.toNatClampNeg (x3 + 1))) (xs (Int32.toNatClampNeg (x3 + 2))) (fun r221 S220 => (((v_b r219) = (v_b r221) → p_law_1939 L xs K18 post S220 x3) ∧ (¬ (v_b r219) = (v_b r221) → False))))))))
def p_law_1231 (L : Nat) (xs : Nat → Int32)   (K18 : vSt → Int32 → Prop) (post : Unit) (S : vSt) (x3 : Int32) : Prop := (vp_in (x3 + 1) L ∧ (vp_in (x3 + 2) L ∧ p_X10_gain  S (xs (Int32.toNatClampNeg (x3 + 1))) (xs (Int32.toNatClampNeg (x3 + 2))) (fun r219 S218 => (vp_in (x3 + 1) L ∧ (vp_in (x3 + 2) L ∧ p_X11_gain  S218 (xs (Int32.toNatClampNeg (x3 + 1))) (xs (Int32.toNatClampNeg (x3 + 2))) (fun r221 S220 => (((v_b r219) = (v_b r221) → p_law_1939 L xs K18 post S220 x3) ∧ (¬ (v_b r219) = (v_b r221) → False))))))))
def p_law_1264 (L : Nat) (xs : Nat → Int32)   (K18 : vSt → Int32 → Prop) (post : Unit) (S : vSt) (x3 : Int32) : Prop := (vp_in (x3 + 1) L ∧ (vp_in (x3 + 2) L ∧ p_X10_loss  S (xs (Int32.toNatClampNeg (x3 + 1))) (xs (Int32.toNatClampNeg (x3 + 2))) (fun r219 S218 => (vp_in (x3 + 1) L ∧ (vp_in (x3 + 2) L ∧ p_X11_loss  S218 (xs (Int32.toNatClampNeg (x3 + 1))) (xs (Int32.toNatClampNeg (x3 + 2))) (fun r221 S220 => (((v_b r219) = (v_b r221) → p_law_1939 L xs K18 post S220 x3) ∧ (¬ (v_b r219) = (v_b r221) → False))))))))
def p_law_1297 (L : Nat) (xs : Nat → Int32)   (K18 : vSt → Int32 → Prop) (post : Unit) (S : vSt) (x3 : Int32) : Prop := (vp_in (x3 + 1) L ∧ p_X10_best  S (xs (Int32.toNatClampNeg (x3 + 1))) (fun r219 S218 => (vp_in (x3 + 1) L ∧ p_X11_best  S218 (xs (Int32.toNatClampNeg (x3 + 1))) (fun r221 S220 => ((r219 = r221 → p_law_1939 L xs K18 post S220 x3) ∧ (¬ r219 = r221 → False))))))
def p_law_1320 (L : Nat) (xs : Nat → Int32)   (K18 : vSt → Int32 → Prop) (post : Unit) (S : vSt) (x3 : Int32) : Prop := (vp_in (x3 + 1) L ∧ (vp_in (x3 + 2) L ∧ p_X10_plan  S (xs (Int32.toNatClampNeg (x3 + 1))) (xs (Int32.toNatClampNeg (x3 + 2))) (fun r219 S218 => (vp_in (x3 + 1) L ∧ (vp_in (x3 + 2) L ∧ p_X11_plan  S218 (xs (Int32.toNatClampNeg (x3 + 1))) (xs (Int32.toNatClampNeg (x3 + 2))) (fun r221 S220 => (((v_b r219) = (v_b r221) → p_law_1939 L xs K18 post S220 x3) ∧ (¬ (v_b r219) = (v_b r221) → False))))))))
def p_law_1353 (L : Nat) (xs : Nat → Int32)   (K18 : vSt → Int32 → Prop) (post : Unit) (S : vSt) (x3 : Int32) : Prop := (vp_in (x3 + 1) L ∧ p_X10_accuser  S (xs (Int32.toNatClampNeg (x3 + 1))) (fun r219 S218 => (vp_in (x3 + 1) L ∧ p_X11_accuser  S218 (xs (Int32.toNatClampNeg (x3 + 1))) (fun r221 S220 => ((r219 = r221 → p_law_1939 L xs K18 post S220 x3) ∧ (¬ r219 = r221 → False))))))
def p_law_1376 (L : Nat) (xs : Nat → Int32)   (K18 : vSt → Int32 → Prop) (post : Unit) (S : vSt) (x3 : Int32) : Prop := (vp_in (x3 + 1) L ∧ p_X10_dreaded  S (xs (Int32.toNatClampNeg (x3 + 1))) (fun r219 S218 => (vp_in (x3 + 1) L ∧ p_X11_dreaded  S218 (xs (Int32.toNatClampNeg (x3 + 1))) (fun r221 S220 => ((r219 = r221 → p_law_1939 L xs K18 post S220 x3) ∧ (¬ r219 = r221 → False))))))
def p_law_1399 (L : Nat) (xs : Nat → Int32)   (K18 : vSt → Int32 → Prop) (post : Unit) (S : vSt) (x3 : Int32) : Prop := (vp_in (x3 + 1) L ∧ p_X10_dread  S (xs (Int32.toNatClampNeg (x3 + 1))) (fun r219 S218 => (vp_in (x3 + 1) L ∧ p_X11_dread  S218 (xs (Int32.toNatClampNeg (x3 + 1))) (fun r221 S220 => (((v_b r219) = (v_b r221) → p_law_1939 L xs K18 post S220 x3) ∧ (¬ (v_b r219) = (v_b r221) → False))))))
def p_law_1422 (L : Nat) (xs : Nat → Int32)   (K18 : vSt → Int32 → Prop) (post : Unit) (S : vSt) (x3 : Int32) : Prop := (vp_in (x3 + 1) L ∧ p_X10_friend  S (xs (Int32.toNatClampNeg (x3 + 1))) (fun r219 S218 => (vp_in (x3 + 1) L ∧ p_X11_friend  S218 (xs (Int32.toNatClampNeg (x3 + 1))) (fun r221 S220 => ((r219 = r221 → p_law_1939 L xs K18 post S220 x3) ∧ (¬ r219 = r221 → False))))))
def p_law_1445 (L : Nat) (xs : Nat → Int32)   (K18 : vSt → Int32 → Prop) (post : Unit) (S : vSt) (x3 : Int32) : Prop := p_X10_quiet  S  (fun r219 S218 => p_X11_quiet  S218  (fun r221 S220 => ((r219 = r221 → p_law_1939 L xs K18 post S220 x3) ∧ (¬ r219 = r221 → False))))
def p_law_1458 (L : Nat) (xs : Nat → Int32)   (K18 : vSt → Int32 → Prop) (post : Unit) (S : vSt) (x3 : Int32) : Prop := (vp_in (x3 + 1) L ∧ (vp_in (x3 + 2) L ∧ (vp_in (x3 + 3) L ∧ p_X10_trade  S (xs (Int32.toNatClampNeg (x3 + 1))) (xs (Int32.toNatClampNeg (x3 + 2))) (xs (Int32.toNatClampNeg (x3 + 3))) (fun r219 S218 => (vp_in (x3 + 1) L ∧ (vp_in (x3 + 2) L ∧ (vp_in (x3 + 3) L ∧ p_X11_trade  S218 (xs (Int32.toNatClampNeg (x3 + 1))) (xs (Int32.toNatClampNeg (x3 + 2))) (xs (Int32.toNatClampNeg (x3 + 3))) (fun r221 S220 => ((r219 = r221 → p_law_1939 L xs K18 post S220 x3) ∧ (¬ r219 = r221 → False))))))))))
def p_law_1501 (L : Nat) (xs : Nat → Int32)   (K18 : vSt → Int32 → Prop) (post : Unit) (S : vSt) (x3 : Int32) : Prop := (vp_in (x3 + 1) L ∧ p_X10_leastShare  S (xs (Int32.toNatClampNeg (x3 + 1))) (fun r219 S218 => (vp_in (x3 + 1) L ∧ p_X11_leastShare  S218 (xs (Int32.toNatClampNeg (x3 + 1))) (fun r221 S220 => ((r219 = r221 → p_law_1939 L xs K18 post S220 x3) ∧ (¬ r219 = r221 → False))))))
def p_law_1524 (L : Nat) (xs : Nat → Int32)   (K18 : vSt → Int32 → Prop) (post : Unit) (S : vSt) (x3 : Int32) : Prop := (vp_in (x3 + 1) L ∧ p_X10_leastFine  S (xs (Int32.toNatClampNeg (x3 + 1))) (fun r219 S218 => (vp_in (x3 + 1) L ∧ p_X11_leastFine  S218 (xs (Int32.toNatClampNeg (x3 + 1))) (fun r221 S220 => ((r219 = r221 → p_law_1939 L xs K18 post S220 x3) ∧ (¬ r219 = r221 → False))))))
def p_law_1547 (L : Nat) (xs : Nat → Int32)   (K18 : vSt → Int32 → Prop) (post : Unit) (S : vSt) (x3 : Int32) : Prop := (vp_in (x3 + 1) L ∧ p_X10_mostPenalty  S (xs (Int32.toNatClampNeg (x3 + 1))) (fun r219 S218 => (vp_in (x3 + 1) L ∧ p_X11_mostPenalty  S218 (xs (Int32.toNatClampNeg (x3 + 1))) (fun r221 S220 => ((r219 = r221 → p_law_1939 L xs K18 post S220 x3) ∧ (¬ r219 = r221 → False))))))
def p_law_1570 (L : Nat) (xs : Nat → Int32)   (K18 : vSt → Int32 → Prop) (post : Unit) (S : vSt) (x3 : Int32) : Prop := (vp_in (x3 + 1) L ∧ (vp_in (x3 + 2) L ∧ p_X10_gladBy  S (xs (Int32.toNatClampNeg (x3 + 1))) (xs (Int32.toNatClampNeg (x3 + 2))) (fun r219 S218 => (vp_in (x3 + 1) L ∧ (vp_in (x3 + 2) L ∧ p_X11_gladBy  S218 (xs (Int32.toNatClampNeg (x3 + 1))) (xs (Int32.toNatClampNeg (x3 + 2))) (fun r221 S220 => ((r219 = r221 → p_law_1939 L xs K18 post S220 x3) ∧ (¬ r219 = r221 → False))))))))
def p_law_1603 (L : Nat) (xs : Nat → Int32)   (K18 : vSt → Int32 → Prop) (post : Unit) (S : vSt) (x3 : Int32) : Prop := (vp_in (x3 + 1) L ∧ (vp_in (x3 + 2) L ∧ (vp_in (x3 + 3) L ∧ p_X10_game  S (xs (Int32.toNatClampNeg (x3 + 1))) (xs (Int32.toNatClampNeg (x3 + 2))) (xs (Int32.toNatClampNeg (x3 + 3))) (fun r219 S218 => (vp_in (x3 + 1) L ∧ (vp_in (x3 + 2) L ∧ (vp_in (x3 + 3) L ∧ p_X11_game  S218 (xs (Int32.toNatClampNeg (x3 + 1))) (xs (Int32.toNatClampNeg (x3 + 2))) (xs (Int32.toNatClampNeg (x3 + 3))) (fun r221 S220 => (((v_b r219) = (v_b r221) → p_law_1939 L xs K18 post S220 x3) ∧ (¬ (v_b r219) = (v_b r221) → False))))))))))
def p_law_1646 (L : Nat) (xs : Nat → Int32)   (K18 : vSt → Int32 → Prop) (post : Unit) (S : vSt) (x3 : Int32) : Prop := (vp_in (x3 + 1) L ∧ (vp_in (x3 + 2) L ∧ (vp_in (x3 + 3) L ∧ p_X10_moveOf  S (xs (Int32.toNatClampNeg (x3 + 1))) (xs (Int32.toNatClampNeg (x3 + 2))) (xs (Int32.toNatClampNeg (x3 + 3))) (fun r219 S218 => (vp_in (x3 + 1) L ∧ (vp_in (x3 + 2) L ∧ (vp_in (x3 + 3) L ∧ p_X11_moveOf  S218 (xs (Int32.toNatClampNeg (x3 + 1))) (xs (Int32.toNatClampNeg (x3 + 2))) (xs (Int32.toNatClampNeg (x3 + 3))) (fun r221 S220 => ((r219 = r221 → p_law_1939 L xs K18 post S220 x3) ∧ (¬ r219 = r221 → False))))))))))
def p_law_1689 (L : Nat) (xs : Nat → Int32)   (K18 : vSt → Int32 → Prop) (post : Unit) (S : vSt) (x3 : Int32) : Prop := (vp_in (x3 + 1) L ∧ p_X10_club  S (xs (Int32.toNatClampNeg (x3 + 1))) (fun r219 S218 => (vp_in (x3 + 1) L ∧ p_X11_club  S218 (xs (Int32.toNatClampNeg (x3 + 1))) (fun r221 S220 => ((r219 = r221 → p_law_1939 L xs K18 post S220 x3) ∧ (¬ r219 = r221 → False))))))
def p_law_1712 (L : Nat) (xs : Nat → Int32)   (K18 : vSt → Int32 → Prop) (post : Unit) (S : vSt) (x3 : Int32) : Prop := (vp_in (x3 + 1) L ∧ p_X10_clubPart  S (xs (Int32.toNatClampNeg (x3 + 1))) (fun r219 S218 => (vp_in (x3 + 1) L ∧ p_X11_clubPart  S218 (xs (Int32.toNatClampNeg (x3 + 1))) (fun r221 S220 => (((v_b r219) = (v_b r221) → p_law_1939 L xs K18 post S220 x3) ∧ (¬ (v_b r219) = (v_b r221) → False))))))
def p_law_1735 (L : Nat) (xs : Nat → Int32)   (K18 : vSt → Int32 → Prop) (post : Unit) (S : vSt) (x3 : Int32) : Prop := (vp_in (x3 + 1) L ∧ (vp_in (x3 + 2) L ∧ p_X10_gained  S (xs (Int32.toNatClampNeg (x3 + 1))) (xs (Int32.toNatClampNeg (x3 + 2))) (fun r219 S218 => (vp_in (x3 + 1) L ∧ (vp_in (x3 + 2) L ∧ p_X11_gained  S218 (xs (Int32.toNatClampNeg (x3 + 1))) (xs (Int32.toNatClampNeg (x3 + 2))) (fun r221 S220 => ((r219 = r221 → p_law_1939 L xs K18 post S220 x3) ∧ (¬ r219 = r221 → False))))))))
def p_law_1768 (L : Nat) (xs : Nat → Int32)   (K18 : vSt → Int32 → Prop) (post : Unit) (S : vSt) (x3 : Int32) : Prop := (vp_in (x3 + 1) L ∧ (vp_in (x3 + 2) L ∧ p_X10_sure  S (xs (Int32.toNatClampNeg (x3 + 1))) (xs (Int32.toNatClampNeg (x3 + 2))) (fun r219 S218 => (vp_in (x3 + 1) L ∧ (vp_in (x3 + 2) L ∧ p_X11_sure  S218 (xs (Int32.toNatClampNeg (x3 + 1))) (xs (Int32.toNatClampNeg (x3 + 2))) (fun r221 S220 => ((r219 = r221 → p_law_1939 L xs K18 post S220 x3) ∧ (¬ r219 = r221 → False))))))))
def p_law_1801 (L : Nat) (xs : Nat → Int32)   (K18 : vSt → Int32 → Prop) (post : Unit) (S : vSt) (x3 : Int32) : Prop := (vp_in (x3 + 1) L ∧ (vp_in (x3 + 2) L ∧ p_X10_bound  S (xs (Int32.toNatClampNeg (x3 + 1))) (xs (Int32.toNatClampNeg (x3 + 2))) (fun r219 S218 => (vp_in (x3 + 1) L ∧ (vp_in (x3 + 2) L ∧ p_X11_bound  S218 (xs (Int32.toNatClampNeg (x3 + 1))) (xs (Int32.toNatClampNeg (x3 + 2))) (fun r221 S220 => ((r219 = r221 → p_law_1939 L xs K18 post S220 x3) ∧ (¬ r219 = r221 → False))))))))
def p_law_1834 (L : Nat) (xs : Nat → Int32)   (K18 : vSt → Int32 → Prop) (post : Unit) (S : vSt) (x3 : Int32) : Prop := (vp_in (x3 + 1) L ∧ p_X10_live  S (xs (Int32.toNatClampNeg (x3 + 1))) (fun r219 S218 => (vp_in (x3 + 1) L ∧ p_X11_live  S218 (xs (Int32.toNatClampNeg (x3 + 1))) (fun r221 S220 => ((r219 = r221 → p_law_1939 L xs K18 post S220 x3) ∧ (¬ r219 = r221 → False))))))
def p_law_1857 (L : Nat) (xs : Nat → Int32)   (K18 : vSt → Int32 → Prop) (post : Unit) (S : vSt) (x3 : Int32) : Prop := (vp_in (x3 + 1) L ∧ p_X10_lived  S (xs (Int32.toNatClampNeg (x3 + 1))) (fun r219 S218 => (vp_in (x3 + 1) L ∧ p_X11_lived  S218 (xs (Int32.toNatClampNeg (x3 + 1))) (fun r221 S220 => ((r219 = r221 → p_law_1939 L xs K18 post S220 x3) ∧ (¬ r219 = r221 → False))))))
def p_law_1880 (L : Nat) (xs : Nat → Int32)   (K18 : vSt → Int32 → Prop) (post : Unit) (S : vSt) (x3 : Int32) : Prop := (vp_in (x3 + 1) L ∧ (vp_in (x3 + 2) L ∧ p_X10_mean  S (xs (Int32.toNatClampNeg (x3 + 1))) (xs (Int32.toNatClampNeg (x3 + 2))) (fun r219 S218 => (vp_in (x3 + 1) L ∧ (vp_in (x3 + 2) L ∧ p_X11_mean  S218 (xs (Int32.toNatClampNeg (x3 + 1))) (xs (Int32.toNatClampNeg (x3 + 2))) (fun r221 S220 => (((v_b r219) = (v_b r221) → p_law_1939 L xs K18 post S220 x3) ∧ (¬ (v_b r219) = (v_b r221) → False))))))))
def p_law_1913 (L : Nat) (xs : Nat → Int32)   (K18 : vSt → Int32 → Prop) (post : Unit) (S : vSt) (x3 : Int32) : Prop := p_X10_mark  S  (fun r219 S218 => p_X11_mark  S218  (fun r221 S220 => ((r219 = r221 → p_law_1939 L xs K18 post S220 x3) ∧ (¬ r219 = r221 → False))))
def p_law_1926 (L : Nat) (xs : Nat → Int32)   (K18 : vSt → Int32 → Prop) (post : Unit) (S : vSt) (x3 : Int32) : Prop := p_X10_back  S  (fun r219 S218 => p_X11_back  S218  (fun r221 S220 => ((r219 = r221 → p_law_1939 L xs K18 post S220 x3) ∧ (¬ r219 = r221 → False))))
def p_law_18 (L : Nat) (xs : Nat → Int32)    (post : Unit) : Nat → vSt → Int32 → Prop
  | 0 => fun _ _ => False
  | fu18 + 1 => fun S x3 => ((((Int32.ofNat L) - 6) < x3 → True) ∧ (¬ ((Int32.ofNat L) - 6) < x3 → (vp_in x3 L ∧ ((((xs (Int32.toNatClampNeg x3)) &&& 63) = 0 → p_law_264 L xs (p_law_18 L xs post fu18) post S x3) ∧ ((((xs (Int32.toNatClampNeg x3)) &&& 63) = 1 → p_law_277 L xs (p_law_18 L xs post fu18) post S x3) ∧ ((((xs (Int32.toNatClampNeg x3)) &&& 63) = 2 → p_law_291 L xs (p_law_18 L xs post fu18) post S x3) ∧ ((((xs (Int32.toNatClampNeg x3)) &&& 63) = 3 → p_law_305 L xs (p_law_18 L xs post fu18) post S x3) ∧ ((((xs (Int32.toNatClampNeg x3)) &&& 63) = 4 → p_law_348 L xs (p_law_18 L xs post fu18) post S x3) ∧ ((((xs (Int32.toNatClampNeg x3)) &&& 63) = 5 → p_law_421 L xs (p_law_18 L xs post fu18) post S x3) ∧ ((((xs (Int32.toNatClampNeg x3)) &&& 63) = 6 → p_law_455 L xs (p_law_18 L xs post fu18) post S x3) ∧ ((((xs (Int32.toNatClampNeg x3)) &&& 63) = 7 → p_law_518 L xs (p_law_18 L xs post fu18) post S x3) ∧ ((((xs (Int32.toNatClampNeg x3)) &&& 63) = 8 → p_law_581 L xs (p_law_18 L xs post fu18) post S x3) ∧ ((((xs (Int32.toNatClampNeg x3)) &&& 63) = 9 → p_law_604 L xs (p_law_18 L xs post fu18) post S x3) ∧ ((((xs (Int32.toNatClampNeg x3)) &&& 63) = 10 → p_law_627 L xs (p_law_18 L xs post fu18) post S x3) ∧ ((((xs (Int32.toNatClampNeg x3)) &&& 63) = 11 → p_law_650 L xs (p_law_18 L xs post fu18) post S x3) ∧ ((((xs (Int32.toNatClampNeg x3)) &&& 63) = 12 → p_law_673 L xs (p_law_18 L xs post fu18) post S x3) ∧ ((((xs (Int32.toNatClampNeg x3)) &&& 63) = 13 → p_law_706 L xs (p_law_18 L xs post fu18) post S x3) ∧ ((((xs (Int32.toNatClampNeg x3)) &&& 63) = 14 → p_law_739 L xs (p_law_18 L xs post fu18) post S x3) ∧ ((((xs (Int32.toNatClampNeg x3)) &&& 63) = 15 → p_law_762 L xs (p_law_18 L xs post fu18) post S x3) ∧ ((((xs (Int32.toNatClampNeg x3)) &&& 63) = 16 → p_law_805 L xs (p_law_18 L xs post fu18) post S x3) ∧ ((((xs (Int32.toNatClampNeg x3)) &&& 63) = 17 → p_law_848 L xs (p_law_18 L xs post fu18) post S x3) ∧ ((((xs (Int32.toNatClampNeg x3)) &&& 63) = 18 → p_law_891 L xs (p_law_18 L xs post fu18) post S x3) ∧ ((((xs (Int32.toNatClampNeg x3)) &&& 63) = 19 → p_law_934 L xs (p_law_18 L xs post fu18) post S x3) ∧ ((((xs (Int32.toNatClampNeg x3)) &&& 63) = 20 → p_law_957 L xs (p_law_18 L xs post fu18) post S x3) ∧ ((((xs (Int32.toNatClampNeg x3)) &&& 63) = 21 → p_law_990 L xs (p_law_18 L xs post fu18) post S x3) ∧ ((((xs (Int32.toNatClampNeg x3)) &&& 63) = 22 → p_law_1023 L xs (p_law_18 L xs post fu18) post S x3) ∧ ((((xs (Int32.toNatClampNeg x3)) &&& 63) = 23 → p_law_1056 L xs (p_law_18 L xs post fu18) post S x3) ∧ ((((xs (Int32.toNatClampNeg x3)) &&& 63) = 24 → p_law_1089 L xs (p_law_18 L xs post fu18) post S x3) ∧ ((((xs (Int32.toNatClampNeg x3)) &&& 63) = 25 → p_law_1122 L xs (p_law_18 L xs post fu18) post S x3) ∧ ((((xs (Int32.toNatClampNeg x3)) &&& 63) = 26 → p_law_1165 L xs (p_law_18 L xs post fu18) post S x3) ∧ ((((xs (Int32.toNatClampNeg x3)) &&& 63) = 27 → p_law_1198 L xs (p_law_18 L xs post fu18) post S x3) ∧ ((((xs (Int32.toNatClampNeg x3)) &&& 63) = 28 → p_law_1231 L xs (p_law_18 L xs post fu18) post S x3) ∧ ((((xs (Int32.toNatClampNeg x3)) &&& 63) = 29 → p_law_1264 L xs (p_law_18 L xs post fu18) post S x3) ∧ ((((xs (Int32.toNatClampNeg x3)) &&& 63) = 30 → p_law_1297 L xs (p_law_18 L xs post fu18) post S x3) ∧ ((((xs (Int32.toNatClampNeg x3)) &&& 63) = 31 → p_law_1320 L xs (p_law_18 L xs post fu18) post S x3) ∧ ((((xs (Int32.toNatClampNeg x3)) &&& 63) = 32 → p_law_1353 L xs (p_law_18 L xs post fu18) post S x3) ∧ ((((xs (Int32.toNatClampNeg x3)) &&& 63) = 33 → p_law_1376 L xs (p_law_18 L xs post fu18) post S x3) ∧ ((((xs (Int32.toNatClampNeg x3)) &&& 63) = 34 → p_law_1399 L xs (p_law_18 L xs post fu18) post S x3) ∧ ((((xs (Int32.toNatClampNeg x3)) &&& 63) = 35 → p_law_1422 L xs (p_law_18 L xs post fu18) post S x3) ∧ ((((xs (Int32.toNatClampNeg x3)) &&& 63) = 36 → p_law_1445 L xs (p_law_18 L xs post fu18) post S x3) ∧ ((((xs (Int32.toNatClampNeg x3)) &&& 63) = 37 → p_law_1458 L xs (p_law_18 L xs post fu18) post S x3) ∧ ((((xs (Int32.toNatClampNeg x3)) &&& 63) = 38 → p_law_1501 L xs (p_law_18 L xs post fu18) post S x3) ∧ ((((xs (Int32.toNatClampNeg x3)) &&& 63) = 39 → p_law_1524 L xs (p_law_18 L xs post fu18) post S x3) ∧ ((((xs (Int32.toNatClampNeg x3)) &&& 63) = 40 → p_law_1547 L xs (p_law_18 L xs post fu18) post S x3) ∧ ((((xs (Int32.toNatClampNeg x3)) &&& 63) = 41 → p_law_1570 L xs (p_law_18 L xs post fu18) post S x3) ∧ ((((xs (Int32.toNatClampNeg x3)) &&& 63) = 42 → p_law_1603 L xs (p_law_18 L xs post fu18) post S x3) ∧ ((((xs (Int32.toNatClampNeg x3)) &&& 63) = 43 → p_law_1646 L xs (p_law_18 L xs post fu18) post S x3) ∧ ((((xs (Int32.toNatClampNeg x3)) &&& 63) = 44 → p_law_1689 L xs (p_law_18 L xs post fu18) post S x3) ∧ ((((xs (Int32.toNatClampNeg x3)) &&& 63) = 45 → p_law_1712 L xs (p_law_18 L xs post fu18) post S x3) ∧ ((((xs (Int32.toNatClampNeg x3)) &&& 63) = 46 → p_law_1735 L xs (p_law_18 L xs post fu18) post S x3) ∧ ((((xs (Int32.toNatClampNeg x3)) &&& 63) = 47 → p_law_1768 L xs (p_law_18 L xs post fu18) post S x3) ∧ ((((xs (Int32.toNatClampNeg x3)) &&& 63) = 48 → p_law_1801 L xs (p_law_18 L xs post fu18) post S x3) ∧ ((((xs (Int32.toNatClampNeg x3)) &&& 63) = 49 → p_law_1834 L xs (p_law_18 L xs post fu18) post S x3) ∧ ((((xs (Int32.toNatClampNeg x3)) &&& 63) = 50 → p_law_1857 L xs (p_law_18 L xs post fu18) post S x3) ∧ ((((xs (Int32.toNatClampNeg x3)) &&& 63) = 51 → p_law_1880 L xs (p_law_18 L xs post fu18) post S x3) ∧ ((((xs (Int32.toNatClampNeg x3)) &&& 63) = 52 → p_law_1913 L xs (p_law_18 L xs post fu18) post S x3) ∧ ((((xs (Int32.toNatClampNeg x3)) &&& 63) = 53 → p_law_1926 L xs (p_law_18 L xs post fu18) post S x3) ∧ (((xs (Int32.toNatClampNeg x3)) &&& 63) < 0 ∨ 53 < ((xs (Int32.toNatClampNeg x3)) &&& 63) → p_law_1939 L xs (p_law_18 L xs post fu18) post S x3))))))))))))))))))))))))))))))))))))))))))))))))))))))))))
theorem e_law_18 (L : Nat) (xs : Nat → Int32)    (post : Unit) (fu18 : Nat) (S : vSt) (x3 : Int32) : p_law_18 L xs post (fu18 + 1) S x3 = (((((Int32.ofNat L) - 6) < x3 → True) ∧ (¬ ((Int32.ofNat L) - 6) < x3 → (vp_in x3 L ∧ ((((xs (Int32.toNatClampNeg x3)) &&& 63) = 0 → p_law_264 L xs (p_law_18 L xs post fu18) post S x3) ∧ ((((xs (Int32.toNatClampNeg x3)) &&& 63) = 1 → p_law_277 L xs (p_law_18 L xs post fu18) post S x3) ∧ ((((xs (Int32.toNatClampNeg x3)) &&& 63) = 2 → p_law_291 L xs (p_law_18 L xs post fu18) post S x3) ∧ ((((xs (Int32.toNatClampNeg x3)) &&& 63) = 3 → p_law_305 L xs (p_law_18 L xs post fu18) post S x3) ∧ ((((xs (Int32.toNatClampNeg x3)) &&& 63) = 4 → p_law_348 L xs (p_law_18 L xs post fu18) post S x3) ∧ ((((xs (Int32.toNatClampNeg x3)) &&& 63) = 5 → p_law_421 L xs (p_law_18 L xs post fu18) post S x3) ∧ ((((xs (Int32.toNatClampNeg x3)) &&& 63) = 6 → p_law_455 L xs (p_law_18 L xs post fu18) post S x3) ∧ ((((xs (Int32.toNatClampNeg x3)) &&& 63) = 7 → p_law_518 L xs (p_law_18 L xs post fu18) post S x3) ∧ ((((xs (Int32.toNatClampNeg x3)) &&& 63) = 8 → p_law_581 L xs (p_law_18 L xs post fu18) post S x3) ∧ ((((xs (Int32.toNatClampNeg x3)) &&& 63) = 9 → p_law_604 L xs (p_law_18 L xs post fu18) post S x3) ∧ ((((xs (Int32.toNatClampNeg x3)) &&& 63) = 10 → p_law_627 L xs (p_law_18 L xs post fu18) post S x3) ∧ ((((xs (Int32.toNatClampNeg x3)) &&& 63) = 11 → p_law_650 L xs (p_law_18 L xs post fu18) post S x3) ∧ ((((xs (Int32.toNatClampNeg x3)) &&& 63) = 12 → p_law_673 L xs (p_law_18 L xs post fu18) post S x3) ∧ ((((xs (Int32.toNatClampNeg x3)) &&& 63) = 13 → p_law_706 L xs (p_law_18 L xs post fu18) post S x3) ∧ ((((xs (Int32.toNatClampNeg x3)) &&& 63) = 14 → p_law_739 L xs (p_law_18 L xs post fu18) post S x3) ∧ ((((xs (Int32.toNatClampNeg x3)) &&& 63) = 15 → p_law_762 L xs (p_law_18 L xs post fu18) post S x3) ∧ ((((xs (Int32.toNatClampNeg x3)) &&& 63) = 16 → p_law_805 L xs (p_law_18 L xs post fu18) post S x3) ∧ ((((xs (Int32.toNatClampNeg x3)) &&& 63) = 17 → p_law_848 L xs (p_law_18 L xs post fu18) post S x3) ∧ ((((xs (Int32.toNatClampNeg x3)) &&& 63) = 18 → p_law_891 L xs (p_law_18 L xs post fu18) post S x3) ∧ ((((xs (Int32.toNatClampNeg x3)) &&& 63) = 19 → p_law_934 L xs (p_law_18 L xs post fu18) post S x3) ∧ ((((xs (Int32.toNatClampNeg x3)) &&& 63) = 20 → p_law_957 L xs (p_law_18 L xs post fu18) post S x3) ∧ ((((xs (Int32.toNatClampNeg x3)) &&& 63) = 21 → p_law_990 L xs (p_law_18 L xs post fu18) post S x3) ∧ ((((xs (Int32.toNatClampNeg x3)) &&& 63) = 22 → p_law_1023 L xs (p_law_18 L xs post fu18) post S x3) ∧ ((((xs (Int32.toNatClampNeg x3)) &&& 63) = 23 → p_law_1056 L xs (p_law_18 L xs post fu18) post S x3) ∧ ((((xs (Int32.toNatClampNeg x3)) &&& 63) = 24 → p_law_1089 L xs (p_law_18 L xs post fu18) post S x3) ∧ ((((xs (Int32.toNatClampNeg x3)) &&& 63) = 25 → p_law_1122 L xs (p_law_18 L xs post fu18) post S x3) ∧ ((((xs (Int32.toNatClampNeg x3)) &&& 63) = 26 → p_law_1165 L xs (p_law_18 L xs post fu18) post S x3) ∧ ((((xs (Int32.toNatClampNeg x3)) &&& 63) = 27 → p_law_1198 L xs (p_law_18 L xs post fu18) post S x3) ∧ ((((xs (Int32.toNatClampNeg x3)) &&& 63) = 28 → p_law_1231 L xs (p_law_18 L xs post fu18) post S x3) ∧ ((((xs (Int32.toNatClampNeg x3)) &&& 63) = 29 → p_law_1264 L xs (p_law_18 L xs post fu18) post S x3) ∧ ((((xs (Int32.toNatClampNeg x3)) &&& 63) = 30 → p_law_1297 L xs (p_law_18 L xs post fu18) post S x3) ∧ ((((xs (Int32.toNatClampNeg x3)) &&& 63) = 31 → p_law_1320 L xs (p_law_18 L xs post fu18) post S x3) ∧ ((((xs (Int32.toNatClampNeg x3)) &&& 63) = 32 → p_law_1353 L xs (p_law_18 L xs post fu18) post S x3) ∧ ((((xs (Int32.toNatClampNeg x3)) &&& 63) = 33 → p_law_1376 L xs (p_law_18 L xs post fu18) post S x3) ∧ ((((xs (Int32.toNatClampNeg x3)) &&& 63) = 34 → p_law_1399 L xs (p_law_18 L xs post fu18) post S x3) ∧ ((((xs (Int32.toNatClampNeg x3)) &&& 63) = 35 → p_law_1422 L xs (p_law_18 L xs post fu18) post S x3) ∧ ((((xs (Int32.toNatClampNeg x3)) &&& 63) = 36 → p_law_1445 L xs (p_law_18 L xs post fu18) post S x3) ∧ ((((xs (Int32.toNatClampNeg x3)) &&& 63) = 37 → p_law_1458 L xs (p_law_18 L xs post fu18) post S x3) ∧ ((((xs (Int32.toNatClampNeg x3)) &&& 63) = 38 → p_law_1501 L xs (p_law_18 L xs post fu18) post S x3) ∧ ((((xs (Int32.toNatClampNeg x3)) &&& 63) = 39 → p_law_1524 L xs (p_law_18 L xs post fu18) post S x3) ∧ ((((xs (Int32.toNatClampNeg x3)) &&& 63) = 40 → p_law_1547 L xs (p_law_18 L xs post fu18) post S x3) ∧ ((((xs (Int32.toNatClampNeg x3)) &&& 63) = 41 → p_law_1570 L xs (p_law_18 L xs post fu18) post S x3) ∧ ((((xs (Int32.toNatClampNeg x3)) &&& 63) = 42 → p_law_1603 L xs (p_law_18 L xs post fu18) post S x3) ∧ ((((xs (Int32.toNatClampNeg x3)) &&& 63) = 43 → p_law_1646 L xs (p_law_18 L xs post fu18) post S x3) ∧ ((((xs (Int32.toNatClampNeg x3)) &&& 63) = 44 → p_law_1689 L xs (p_law_18 L xs post fu18) post S x3) ∧ ((((xs (Int32.toNatClampNeg x3)) &&& 63) = 45 → p_law_1712 L xs (p_law_18 L xs post fu18) post S x3) ∧ ((((xs (Int32.toNatClampNeg x3)) &&& 63) = 46 → p_law_1735 L xs (p_law_18 L xs post fu18) post S x3) ∧ ((((xs (Int32.toNatClampNeg x3)) &&& 63) = 47 → p_law_1768 L xs (p_law_18 L xs post fu18) post S x3) ∧ ((((xs (Int32.toNatClampNeg x3)) &&& 63) = 48 → p_law_1801 L xs (p_law_18 L xs post fu18) post S x3) ∧ ((((xs (Int32.toNatClampNeg x3)) &&& 63) = 49 → p_law_1834 L xs (p_law_18 L xs post fu18) post S x3) ∧ ((((xs (Int32.toNatClampNeg x3)) &&& 63) = 50 → p_law_1857 L xs (p_law_18 L xs post fu18) post S x3) ∧ ((((xs (Int32.toNatClampNeg x3)) &&& 63) = 51 → p_law_1880 L xs (p_law_18 L xs post fu18) post S x3) ∧ ((((xs (Int32.toNatClampNeg x3)) &&& 63) = 52 → p_law_1913 L xs (p_law_18 L xs post fu18) post S x3) ∧ ((((xs (Int32.toNatClampNeg x3)) &&& 63) = 53 → p_law_1926 L xs (p_law_18 L xs post fu18) post S x3) ∧ (((xs (Int32.toNatClampNeg x3)) &&& 63) < 0 ∨ 53 < ((xs (Int32.toNatClampNeg x3)) &&& 63) → p_law_1939 L xs (p_law_18 L xs post fu18) post S x3))))))))))))))))))))))))))))))))))))))))))))))))))))))))))) := rfl
set_option maxHeartbeats 16000000 in
set_option maxRecDepth 100000 in
theorem q_law_1939 {X : vX} {G : vG}  {post : Unit} (C : v_Cx X G cL_law RL 4 room_1) (D : ∀ H locs ls, va_S (v_AA X) (v_s X).heap H locs → v_W X H locs (F0 (v_m X) 1946 ls [.int 1])) {bb L : Nat} {xs : Nat → Int32} (hX : va_X bb L xs (v_s X) (v_s X).heap) (hbl : bb < (v_s X).heap.size) (hbA : ¬ v_AA X bb)   {K18 : vSt → Int32 → Prop} (hK18 : ∀ S x3, K18 S x3 → VJ X G S 18 [(0, .ref bb), (1, .ref (G.1 0)), (2, .ref (G.1 143)), (3, .int x3)] []) : ∀ (S : vSt) (x3 : Int32), p_law_1939 L xs K18 post S x3 → VJ X G S 1939 [(0, .ref bb), (1, .ref (G.1 0)), (2, .ref (G.1 143)), (3, .int x3)] [] := by
  intro S x3 h
  obtain ⟨y222, ey222⟩ : ∃ z : Int32, z = x3 + 6 := ⟨_, rfl⟩
  have h := h y222 ey222
  refine V_iinc (lv' := [(0, .ref bb), (1, .ref (G.1 0)), (2, .ref (G.1 143)), (3, .int y222)]) C 3 [1, 2, 3, 0] y222 dL_law_1939 rfl (by rw [ey222]; rfl) (by decide) rfl ?_
  refine V_goto (tgt := 18) C dL_law_1942 (by decide) ?_
  exact hK18 _ _ h
set_option maxHeartbeats 16000000 in
set_option maxRecDepth 100000 in
theorem q_law_264 {X : vX} {G : vG}  {post : Unit} (C : v_Cx X G cL_law RL 4 room_1) (D : ∀ H locs ls, va_S (v_AA X) (v_s X).heap H locs → v_W X H locs (F0 (v_m X) 1946 ls [.int 1])) {bb L : Nat} {xs : Nat → Int32} (hX : va_X bb L xs (v_s X) (v_s X).heap) (hbl : bb < (v_s X).heap.size) (hbA : ¬ v_AA X bb)   {K18 : vSt → Int32 → Prop} (hK18 : ∀ S x3, K18 S x3 → VJ X G S 18 [(0, .ref bb), (1, .ref (G.1 0)), (2, .ref (G.1 143)), (3, .int x3)] []) : ∀ (S : vSt) (x3 : Int32), p_law_264 L xs K18 post S x3 → VJ X G S 264 [(0, .ref bb), (1, .ref (G.1 0)), (2, .ref (G.1 143)), (3, .int x3)] [] := by
  intro S x3 h
  refine V_aload_n C 1 dL_law_264 rfl rfl ?_
  refine V_callVi (As := []) (rest := []) C (c_X10_status (v_l X) G  _ h) 0 10 (by decide) (by decide) (by decide) rfl KV_X10_status k_RL_13 rfl rfl rfl (Nat.le_of_ble_eq_true rfl) ⟨by decide, by decide⟩ dL_law_265 (fun r219 S218 h => ?_)
  refine V_aload_n C 2 dL_law_268 rfl rfl ?_
  refine V_callVi (As := []) (rest := [.int r219]) C (c_X11_status (v_l X) G  _ h) 143 11 (by decide) (by decide) (by decide) rfl KV_X11_status k_RL_17 rfl rfl rfl (Nat.le_of_ble_eq_true rfl) ⟨by decide, by decide⟩ dL_law_269 (fun r221 S220 h => ?_)
  refine V_icmp_eq (tgt := 1939) C dL_law_272 (by decide) (fun c => ?_) (fun c => ?_)
  · have h := h.1 c
    exact q_law_1939 C D hX hbl hbA hK18 _ _ h
  · have h := h.2 c
    refine V_iconst (v := 0) C dL_law_275 (by decide) ?_
    exact h.elim
set_option maxHeartbeats 16000000 in
set_option maxRecDepth 100000 in
theorem q_law_277 {X : vX} {G : vG}  {post : Unit} (C : v_Cx X G cL_law RL 4 room_1) (D : ∀ H locs ls, va_S (v_AA X) (v_s X).heap H locs → v_W X H locs (F0 (v_m X) 1946 ls [.int 1])) {bb L : Nat} {xs : Nat → Int32} (hX : va_X bb L xs (v_s X) (v_s X).heap) (hbl : bb < (v_s X).heap.size) (hbA : ¬ v_AA X bb)   {K18 : vSt → Int32 → Prop} (hK18 : ∀ S x3, K18 S x3 → VJ X G S 18 [(0, .ref bb), (1, .ref (G.1 0)), (2, .ref (G.1 143)), (3, .int x3)] []) : ∀ (S : vSt) (x3 : Int32), p_law_277 L xs K18 post S x3 → VJ X G S 277 [(0, .ref bb), (1, .ref (G.1 0)), (2, .ref (G.1 143)), (3, .int x3)] [] := by
  intro S x3 h
  refine V_aload_n C 1 dL_law_277 rfl rfl ?_
  refine V_callVl (As := []) (rest := []) C (c_X10_top (v_l X) G  _ h) 0 10 (by decide) (by decide) (by decide) rfl KV_X10_top k_RL_18 rfl rfl rfl (Nat.le_of_ble_eq_true rfl) ⟨by decide, by decide⟩ dL_law_278 (fun r219 S218 h => ?_)
  refine V_aload_n C 2 dL_law_281 rfl rfl ?_
  refine V_callVl (As := []) (rest := [.long r219]) C (c_X11_top (v_l X) G  _ h) 143 11 (by decide) (by decide) (by decide) rfl KV_X11_top k_RL_22 rfl rfl rfl (Nat.le_of_ble_eq_true rfl) ⟨by decide, by decide⟩ dL_law_282 (fun r221 S220 h => ?_)
  refine V_lcmp_eq (tgt := 1939) C dL_law_285 dL_law_286 (by decide) (fun c => ?_) (fun c => ?_)
  · have h := h.1 c
    exact q_law_1939 C D hX hbl hbA hK18 _ _ h
  · have h := h.2 c
    refine V_iconst (v := 0) C dL_law_289 (by decide) ?_
    exact h.elim
set_option maxHeartbeats 16000000 in
set_option maxRecDepth 100000 in
theorem q_law_291 {X : vX} {G : vG}  {post : Unit} (C : v_Cx X G cL_law RL 4 room_1) (D : ∀ H locs ls, va_S (v_AA X) (v_s X).heap H locs → v_W X H locs (F0 (v_m X) 1946 ls [.int 1])) {bb L : Nat} {xs : Nat → Int32} (hX : va_X bb L xs (v_s X) (v_s X).heap) (hbl : bb < (v_s X).heap.size) (hbA : ¬ v_AA X bb)   {K18 : vSt → Int32 → Prop} (hK18 : ∀ S x3, K18 S x3 → VJ X G S 18 [(0, .ref bb), (1, .ref (G.1 0)), (2, .ref (G.1 143)), (3, .int x3)] []) : ∀ (S : vSt) (x3 : Int32), p_law_291 L xs K18 post S x3 → VJ X G S 291 [(0, .ref bb), (1, .ref (G.1 0)), (2, .ref (G.1 143)), (3, .int x3)] [] := by
  intro S x3 h
  refine V_aload_n C 1 dL_law_291 rfl rfl ?_
  refine V_callVl (As := []) (rest := []) C (c_X10_bottom (v_l X) G  _ h) 0 10 (by decide) (by decide) (by decide) rfl KV_X10_bottom k_RL_23 rfl rfl rfl (Nat.le_of_ble_eq_true rfl) ⟨by decide, by decide⟩ dL_law_292 (fun r219 S218 h => ?_)
  refine V_aload_n C 2 dL_law_295 rfl rfl ?_
  refine V_callVl (As := []) (rest := [.long r219]) C (c_X11_bottom (v_l X) G  _ h) 143 11 (by decide) (by decide) (by decide) rfl KV_X11_bottom k_RL_26 rfl rfl rfl (Nat.le_of_ble_eq_true rfl) ⟨by decide, by decide⟩ dL_law_296 (fun r221 S220 h => ?_)
  refine V_lcmp_eq (tgt := 1939) C dL_law_299 dL_law_300 (by decide) (fun c => ?_) (fun c => ?_)
  · have h := h.1 c
    exact q_law_1939 C D hX hbl hbA hK18 _ _ h
  · have h := h.2 c
    refine V_iconst (v := 0) C dL_law_303 (by decide) ?_
    exact h.elim
set_option maxHeartbeats 16000000 in
set_option maxRecDepth 100000 in
theorem q_law_305 {X : vX} {G : vG}  {post : Unit} (C : v_Cx X G cL_law RL 4 room_1) (D : ∀ H locs ls, va_S (v_AA X) (v_s X).heap H locs → v_W X H locs (F0 (v_m X) 1946 ls [.int 1])) {bb L : Nat} {xs : Nat → Int32} (hX : va_X bb L xs (v_s X) (v_s X).heap) (hbl : bb < (v_s X).heap.size) (hbA : ¬ v_AA X bb)   {K18 : vSt → Int32 → Prop} (hK18 : ∀ S x3, K18 S x3 → VJ X G S 18 [(0, .ref bb), (1, .ref (G.1 0)), (2, .ref (G.1 143)), (3, .int x3)] []) : ∀ (S : vSt) (x3 : Int32), p_law_305 L xs K18 post S x3 → VJ X G S 305 [(0, .ref bb), (1, .ref (G.1 0)), (2, .ref (G.1 143)), (3, .int x3)] [] := by
  intro S x3 h
  refine V_aload_n C 1 dL_law_305 rfl rfl ?_
  refine V_aload_n C 0 dL_law_306 rfl rfl ?_
  refine V_iload_n C 3 dL_law_307 rfl rfl ?_
  refine V_iconst (v := 1) C dL_law_308 (by decide) ?_
  refine V_iadd C dL_law_309 ?_
  obtain ⟨hi, h⟩ := h
  refine V_sld C hX hbl hbA hi dL_law_310 ?_
  refine V_aload_n C 0 dL_law_311 rfl rfl ?_
  refine V_iload_n C 3 dL_law_312 rfl rfl ?_
  refine V_iconst (v := 2) C dL_law_313 (by decide) ?_
  refine V_iadd C dL_law_314 ?_
  obtain ⟨hi, h⟩ := h
  refine V_sld C hX hbl hbA hi dL_law_315 ?_
  refine V_aload_n C 0 dL_law_316 rfl rfl ?_
  refine V_iload_n C 3 dL_law_317 rfl rfl ?_
  refine V_iconst (v := 3) C dL_law_318 (by decide) ?_
  refine V_iadd C dL_law_319 ?_
  obtain ⟨hi, h⟩ := h
  refine V_sld C hX hbl hbA hi dL_law_320 ?_
  refine V_callVz (As := [.int (xs (Int32.toNatClampNeg (x3 + 1))), .int (xs (Int32.toNatClampNeg (x3 + 2))), .int (xs (Int32.toNatClampNeg (x3 + 3)))]) (rest := []) C (c_X10_tray (v_l X) G  _ _ _ _ h) 0 10 (by decide) (by decide) (by decide) rfl KV_X10_tray k_RL_27 rfl rfl rfl (Nat.le_of_ble_eq_true rfl) ⟨by decide, by decide⟩ dL_law_321 (fun r219 S218 h => ?_)
  refine V_aload_n C 2 dL_law_324 rfl rfl ?_
  refine V_aload_n C 0 dL_law_325 rfl rfl ?_
  refine V_iload_n C 3 dL_law_326 rfl rfl ?_
  refine V_iconst (v := 1) C dL_law_327 (by decide) ?_
  refine V_iadd C dL_law_328 ?_
  obtain ⟨hi, h⟩ := h
  refine V_sld C hX hbl hbA hi dL_law_329 ?_
  refine V_aload_n C 0 dL_law_330 rfl rfl ?_
  refine V_iload_n C 3 dL_law_331 rfl rfl ?_
  refine V_iconst (v := 2) C dL_law_332 (by decide) ?_
  refine V_iadd C dL_law_333 ?_
  obtain ⟨hi, h⟩ := h
  refine V_sld C hX hbl hbA hi dL_law_334 ?_
  refine V_aload_n C 0 dL_law_335 rfl rfl ?_
  refine V_iload_n C 3 dL_law_336 rfl rfl ?_
  refine V_iconst (v := 3) C dL_law_337 (by decide) ?_
  refine V_iadd C dL_law_338 ?_
  obtain ⟨hi, h⟩ := h
  refine V_sld C hX hbl hbA hi dL_law_339 ?_
  refine V_callVz (As := [.int (xs (Int32.toNatClampNeg (x3 + 1))), .int (xs (Int32.toNatClampNeg (x3 + 2))), .int (xs (Int32.toNatClampNeg (x3 + 3)))]) (rest := [.int (v_b r219)]) C (c_X11_tray (v_l X) G  _ _ _ _ h) 143 11 (by decide) (by decide) (by decide) rfl KV_X11_tray k_RL_31 rfl rfl rfl (Nat.le_of_ble_eq_true rfl) ⟨by decide, by decide⟩ dL_law_340 (fun r221 S220 h => ?_)
  refine V_icmp_eq (tgt := 1939) C dL_law_343 (by decide) (fun c => ?_) (fun c => ?_)
  · have h := h.1 c
    exact q_law_1939 C D hX hbl hbA hK18 _ _ h
  · have h := h.2 c
    refine V_iconst (v := 0) C dL_law_346 (by decide) ?_
    exact h.elim
set_option maxHeartbeats 16000000 in
set_option maxRecDepth 100000 in
theorem q_law_348 {X : vX} {G : vG}  {post : Unit} (C : v_Cx X G cL_law RL 4 room_1) (D : ∀ H locs ls, va_S (v_AA X) (v_s X).heap H locs → v_W X H locs (F0 (v_m X) 1946 ls [.int 1])) {bb L : Nat} {xs : Nat → Int32} (hX : va_X bb L xs (v_s X) (v_s X).heap) (hbl : bb < (v_s X).heap.size) (hbA : ¬ v_AA X bb)   {K18 : vSt → Int32 → Prop} (hK18 : ∀ S x3, K18 S x3 → VJ X G S 18 [(0, .ref bb), (1, .ref (G.1 0)), (2, .ref (G.1 143)), (3, .int x3)] []) : ∀ (S : vSt) (x3 : Int32), p_law_348 L xs K18 post S x3 → VJ X G S 348 [(0, .ref bb), (1, .ref (G.1 0)), (2, .ref (G.1 143)), (3, .int x3)] [] := by
  intro S x3 h
  refine V_aload_n C 1 dL_law_348 rfl rfl ?_
  refine V_aload_n C 0 dL_law_349 rfl rfl ?_
  refine V_iload_n C 3 dL_law_350 rfl rfl ?_
  refine V_iconst (v := 1) C dL_law_351 (by decide) ?_
  refine V_iadd C dL_law_352 ?_
  obtain ⟨hi, h⟩ := h
  refine V_sld C hX hbl hbA hi dL_law_353 ?_
  refine V_aload_n C 0 dL_law_354 rfl rfl ?_
  refine V_iload_n C 3 dL_law_355 rfl rfl ?_
  refine V_iconst (v := 2) C dL_law_356 (by decide) ?_
  refine V_iadd C dL_law_357 ?_
  obtain ⟨hi, h⟩ := h
  refine V_sld C hX hbl hbA hi dL_law_358 ?_
  refine V_aload_n C 0 dL_law_359 rfl rfl ?_
  refine V_iload_n C 3 dL_law_360 rfl rfl ?_
  refine V_iconst (v := 3) C dL_law_361 (by decide) ?_
  refine V_iadd C dL_law_362 ?_
  obtain ⟨hi, h⟩ := h
  refine V_sld C hX hbl hbA hi dL_law_363 ?_
  refine V_i2l C dL_law_364 ?_
  refine V_bipush (v := 32) C dL_law_365 (by decide) ?_
  refine V_lshl C dL_law_367 ?_
  refine V_aload_n C 0 dL_law_368 rfl rfl ?_
  refine V_iload_n C 3 dL_law_369 rfl rfl ?_
  refine V_iconst (v := 4) C dL_law_370 (by decide) ?_
  refine V_iadd C dL_law_371 ?_
  obtain ⟨hi, h⟩ := h
  refine V_sld C hX hbl hbA hi dL_law_372 ?_
  refine V_i2l C dL_law_373 ?_
  refine V_ldc2 (v := 4294967295) C k_RL_32 dL_law_374 ?_
  refine V_land C dL_law_377 ?_
  refine V_lor C dL_law_378 ?_
  refine V_callVz (As := [.int (xs (Int32.toNatClampNeg (x3 + 1))), .int (xs (Int32.toNatClampNeg (x3 + 2))), .long (((Int32.toInt64 (xs (Int32.toNatClampNeg (x3 + 3)))) <<< ((Int32.toInt64 32) &&& 63)) ||| ((Int32.toInt64 (xs (Int32.toNatClampNeg (x3 + 4)))) &&& 4294967295))]) (rest := []) C (c_X10_write (v_l X) G  _ _ _ _ h) 0 10 (by decide) (by decide) (by decide) rfl KV_X10_write k_RL_34 rfl rfl rfl (Nat.le_of_ble_eq_true rfl) ⟨by decide, by decide⟩ dL_law_379 (fun r219 S218 h => ?_)
  refine V_aload_n C 2 dL_law_382 rfl rfl ?_
  refine V_aload_n C 0 dL_law_383 rfl rfl ?_
  refine V_iload_n C 3 dL_law_384 rfl rfl ?_
  refine V_iconst (v := 1) C dL_law_385 (by decide) ?_
  refine V_iadd C dL_law_386 ?_
  obtain ⟨hi, h⟩ := h
  refine V_sld C hX hbl hbA hi dL_law_387 ?_
  refine V_aload_n C 0 dL_law_388 rfl rfl ?_
  refine V_iload_n C 3 dL_law_389 rfl rfl ?_
  refine V_iconst (v := 2) C dL_law_390 (by decide) ?_
  refine V_iadd C dL_law_391 ?_
  obtain ⟨hi, h⟩ := h
  refine V_sld C hX hbl hbA hi dL_law_392 ?_
  refine V_aload_n C 0 dL_law_393 rfl rfl ?_
  refine V_iload_n C 3 dL_law_394 rfl rfl ?_
  refine V_iconst (v := 3) C dL_law_395 (by decide) ?_
  refine V_iadd C dL_law_396 ?_
  obtain ⟨hi, h⟩ := h
  refine V_sld C hX hbl hbA hi dL_law_397 ?_
  refine V_i2l C dL_law_398 ?_
  refine V_bipush (v := 32) C dL_law_399 (by decide) ?_
  refine V_lshl C dL_law_401 ?_
  refine V_aload_n C 0 dL_law_402 rfl rfl ?_
  refine V_iload_n C 3 dL_law_403 rfl rfl ?_
  refine V_iconst (v := 4) C dL_law_404 (by decide) ?_
  refine V_iadd C dL_law_405 ?_
  obtain ⟨hi, h⟩ := h
  refine V_sld C hX hbl hbA hi dL_law_406 ?_
  refine V_i2l C dL_law_407 ?_
  refine V_ldc2 (v := 4294967295) C k_RL_32 dL_law_408 ?_
  refine V_land C dL_law_411 ?_
  refine V_lor C dL_law_412 ?_
  refine V_callVz (As := [.int (xs (Int32.toNatClampNeg (x3 + 1))), .int (xs (Int32.toNatClampNeg (x3 + 2))), .long (((Int32.toInt64 (xs (Int32.toNatClampNeg (x3 + 3)))) <<< ((Int32.toInt64 32) &&& 63)) ||| ((Int32.toInt64 (xs (Int32.toNatClampNeg (x3 + 4)))) &&& 4294967295))]) (rest := [.int (v_b r219)]) C (c_X11_write (v_l X) G  _ _ _ _ h) 143 11 (by decide) (by decide) (by decide) rfl KV_X11_write k_RL_38 rfl rfl rfl (Nat.le_of_ble_eq_true rfl) ⟨by decide, by decide⟩ dL_law_413 (fun r221 S220 h => ?_)
  refine V_icmp_eq (tgt := 1939) C dL_law_416 (by decide) (fun c => ?_) (fun c => ?_)
  · have h := h.1 c
    exact q_law_1939 C D hX hbl hbA hK18 _ _ h
  · have h := h.2 c
    refine V_iconst (v := 0) C dL_law_419 (by decide) ?_
    exact h.elim
set_option maxHeartbeats 16000000 in
set_option maxRecDepth 100000 in
theorem q_law_421 {X : vX} {G : vG}  {post : Unit} (C : v_Cx X G cL_law RL 4 room_1) (D : ∀ H locs ls, va_S (v_AA X) (v_s X).heap H locs → v_W X H locs (F0 (v_m X) 1946 ls [.int 1])) {bb L : Nat} {xs : Nat → Int32} (hX : va_X bb L xs (v_s X) (v_s X).heap) (hbl : bb < (v_s X).heap.size) (hbA : ¬ v_AA X bb)   {K18 : vSt → Int32 → Prop} (hK18 : ∀ S x3, K18 S x3 → VJ X G S 18 [(0, .ref bb), (1, .ref (G.1 0)), (2, .ref (G.1 143)), (3, .int x3)] []) : ∀ (S : vSt) (x3 : Int32), p_law_421 L xs K18 post S x3 → VJ X G S 421 [(0, .ref bb), (1, .ref (G.1 0)), (2, .ref (G.1 143)), (3, .int x3)] [] := by
  intro S x3 h
  refine V_aload_n C 1 dL_law_421 rfl rfl ?_
  refine V_aload_n C 0 dL_law_422 rfl rfl ?_
  refine V_iload_n C 3 dL_law_423 rfl rfl ?_
  refine V_iconst (v := 1) C dL_law_424 (by decide) ?_
  refine V_iadd C dL_law_425 ?_
  obtain ⟨hi, h⟩ := h
  refine V_sld C hX hbl hbA hi dL_law_426 ?_
  refine V_aload_n C 0 dL_law_427 rfl rfl ?_
  refine V_iload_n C 3 dL_law_428 rfl rfl ?_
  refine V_iconst (v := 2) C dL_law_429 (by decide) ?_
  refine V_iadd C dL_law_430 ?_
  obtain ⟨hi, h⟩ := h
  refine V_sld C hX hbl hbA hi dL_law_431 ?_
  refine V_callVl (As := [.int (xs (Int32.toNatClampNeg (x3 + 1))), .int (xs (Int32.toNatClampNeg (x3 + 2)))]) (rest := []) C (c_X10_read (v_l X) G  _ _ _ h) 0 10 (by decide) (by decide) (by decide) rfl KV_X10_read k_RL_39 rfl rfl rfl (Nat.le_of_ble_eq_true rfl) ⟨by decide, by decide⟩ dL_law_432 (fun r219 S218 h => ?_)
  refine V_aload_n C 2 dL_law_435 rfl rfl ?_
  refine V_aload_n C 0 dL_law_436 rfl rfl ?_
  refine V_iload_n C 3 dL_law_437 rfl rfl ?_
  refine V_iconst (v := 1) C dL_law_438 (by decide) ?_
  refine V_iadd C dL_law_439 ?_
  obtain ⟨hi, h⟩ := h
  refine V_sld C hX hbl hbA hi dL_law_440 ?_
  refine V_aload_n C 0 dL_law_441 rfl rfl ?_
  refine V_iload_n C 3 dL_law_442 rfl rfl ?_
  refine V_iconst (v := 2) C dL_law_443 (by decide) ?_
  refine V_iadd C dL_law_444 ?_
  obtain ⟨hi, h⟩ := h
  refine V_sld C hX hbl hbA hi dL_law_445 ?_
  refine V_callVl (As := [.int (xs (Int32.toNatClampNeg (x3 + 1))), .int (xs (Int32.toNatClampNeg (x3 + 2)))]) (rest := [.long r219]) C (c_X11_read (v_l X) G  _ _ _ h) 143 11 (by decide) (by decide) (by decide) rfl KV_X11_read k_RL_43 rfl rfl rfl (Nat.le_of_ble_eq_true rfl) ⟨by decide, by decide⟩ dL_law_446 (fun r221 S220 h => ?_)
  refine V_lcmp_eq (tgt := 1939) C dL_law_449 dL_law_450 (by decide) (fun c => ?_) (fun c => ?_)
  · have h := h.1 c
    exact q_law_1939 C D hX hbl hbA hK18 _ _ h
  · have h := h.2 c
    refine V_iconst (v := 0) C dL_law_453 (by decide) ?_
    exact h.elim
set_option maxHeartbeats 16000000 in
set_option maxRecDepth 100000 in
theorem q_law_455 {X : vX} {G : vG}  {post : Unit} (C : v_Cx X G cL_law RL 4 room_1) (D : ∀ H locs ls, va_S (v_AA X) (v_s X).heap H locs → v_W X H locs (F0 (v_m X) 1946 ls [.int 1])) {bb L : Nat} {xs : Nat → Int32} (hX : va_X bb L xs (v_s X) (v_s X).heap) (hbl : bb < (v_s X).heap.size) (hbA : ¬ v_AA X bb)   {K18 : vSt → Int32 → Prop} (hK18 : ∀ S x3, K18 S x3 → VJ X G S 18 [(0, .ref bb), (1, .ref (G.1 0)), (2, .ref (G.1 143)), (3, .int x3)] []) : ∀ (S : vSt) (x3 : Int32), p_law_455 L xs K18 post S x3 → VJ X G S 455 [(0, .ref bb), (1, .ref (G.1 0)), (2, .ref (G.1 143)), (3, .int x3)] [] := by
  intro S x3 h
  refine V_aload_n C 1 dL_law_455 rfl rfl ?_
  refine V_aload_n C 0 dL_law_456 rfl rfl ?_
  refine V_iload_n C 3 dL_law_457 rfl rfl ?_
  refine V_iconst (v := 1) C dL_law_458 (by decide) ?_
  refine V_iadd C dL_law_459 ?_
  obtain ⟨hi, h⟩ := h
  refine V_sld C hX hbl hbA hi dL_law_460 ?_
  refine V_aload_n C 0 dL_law_461 rfl rfl ?_
  refine V_iload_n C 3 dL_law_462 rfl rfl ?_
  refine V_iconst (v := 2) C dL_law_463 (by decide) ?_
  refine V_iadd C dL_law_464 ?_
  obtain ⟨hi, h⟩ := h
  refine V_sld C hX hbl hbA hi dL_law_465 ?_
  refine V_aload_n C 0 dL_law_466 rfl rfl ?_
  refine V_iload_n C 3 dL_law_467 rfl rfl ?_
  refine V_iconst (v := 3) C dL_law_468 (by decide) ?_
  refine V_iadd C dL_law_469 ?_
  obtain ⟨hi, h⟩ := h
  refine V_sld C hX hbl hbA hi dL_law_470 ?_
  refine V_aload_n C 0 dL_law_471 rfl rfl ?_
  refine V_iload_n C 3 dL_law_472 rfl rfl ?_
  refine V_iconst (v := 4) C dL_law_473 (by decide) ?_
  refine V_iadd C dL_law_474 ?_
  obtain ⟨hi, h⟩ := h
  refine V_sld C hX hbl hbA hi dL_law_475 ?_
  refine V_aload_n C 0 dL_law_476 rfl rfl ?_
  refine V_iload_n C 3 dL_law_477 rfl rfl ?_
  refine V_iconst (v := 5) C dL_law_478 (by decide) ?_
  refine V_iadd C dL_law_479 ?_
  obtain ⟨hi, h⟩ := h
  refine V_sld C hX hbl hbA hi dL_law_480 ?_
  refine V_callVz (As := [.int (xs (Int32.toNatClampNeg (x3 + 1))), .int (xs (Int32.toNatClampNeg (x3 + 2))), .int (xs (Int32.toNatClampNeg (x3 + 3))), .int (xs (Int32.toNatClampNeg (x3 + 4))), .int (xs (Int32.toNatClampNeg (x3 + 5)))]) (rest := []) C (c_X10_pour (v_l X) G  _ _ _ _ _ _ h) 0 10 (by decide) (by decide) (by decide) rfl KV_X10_pour k_RL_44 rfl rfl rfl (Nat.le_of_ble_eq_true rfl) ⟨by decide, by decide⟩ dL_law_481 (fun r219 S218 h => ?_)
  refine V_aload_n C 2 dL_law_484 rfl rfl ?_
  refine V_aload_n C 0 dL_law_485 rfl rfl ?_
  refine V_iload_n C 3 dL_law_486 rfl rfl ?_
  refine V_iconst (v := 1) C dL_law_487 (by decide) ?_
  refine V_iadd C dL_law_488 ?_
  obtain ⟨hi, h⟩ := h
  refine V_sld C hX hbl hbA hi dL_law_489 ?_
  refine V_aload_n C 0 dL_law_490 rfl rfl ?_
  refine V_iload_n C 3 dL_law_491 rfl rfl ?_
  refine V_iconst (v := 2) C dL_law_492 (by decide) ?_
  refine V_iadd C dL_law_493 ?_
  obtain ⟨hi, h⟩ := h
  refine V_sld C hX hbl hbA hi dL_law_494 ?_
  refine V_aload_n C 0 dL_law_495 rfl rfl ?_
  refine V_iload_n C 3 dL_law_496 rfl rfl ?_
  refine V_iconst (v := 3) C dL_law_497 (by decide) ?_
  refine V_iadd C dL_law_498 ?_
  obtain ⟨hi, h⟩ := h
  refine V_sld C hX hbl hbA hi dL_law_499 ?_
  refine V_aload_n C 0 dL_law_500 rfl rfl ?_
  refine V_iload_n C 3 dL_law_501 rfl rfl ?_
  refine V_iconst (v := 4) C dL_law_502 (by decide) ?_
  refine V_iadd C dL_law_503 ?_
  obtain ⟨hi, h⟩ := h
  refine V_sld C hX hbl hbA hi dL_law_504 ?_
  refine V_aload_n C 0 dL_law_505 rfl rfl ?_
  refine V_iload_n C 3 dL_law_506 rfl rfl ?_
  refine V_iconst (v := 5) C dL_law_507 (by decide) ?_
  refine V_iadd C dL_law_508 ?_
  obtain ⟨hi, h⟩ := h
  refine V_sld C hX hbl hbA hi dL_law_509 ?_
  refine V_callVz (As := [.int (xs (Int32.toNatClampNeg (x3 + 1))), .int (xs (Int32.toNatClampNeg (x3 + 2))), .int (xs (Int32.toNatClampNeg (x3 + 3))), .int (xs (Int32.toNatClampNeg (x3 + 4))), .int (xs (Int32.toNatClampNeg (x3 + 5)))]) (rest := [.int (v_b r219)]) C (c_X11_pour (v_l X) G  _ _ _ _ _ _ h) 143 11 (by decide) (by decide) (by decide) rfl KV_X11_pour k_RL_48 rfl rfl rfl (Nat.le_of_ble_eq_true rfl) ⟨by decide, by decide⟩ dL_law_510 (fun r221 S220 h => ?_)
  refine V_icmp_eq (tgt := 1939) C dL_law_513 (by decide) (fun c => ?_) (fun c => ?_)
  · have h := h.1 c
    exact q_law_1939 C D hX hbl hbA hK18 _ _ h
  · have h := h.2 c
    refine V_iconst (v := 0) C dL_law_516 (by decide) ?_
    exact h.elim
set_option maxHeartbeats 16000000 in
set_option maxRecDepth 100000 in
theorem q_law_518 {X : vX} {G : vG}  {post : Unit} (C : v_Cx X G cL_law RL 4 room_1) (D : ∀ H locs ls, va_S (v_AA X) (v_s X).heap H locs → v_W X H locs (F0 (v_m X) 1946 ls [.int 1])) {bb L : Nat} {xs : Nat → Int32} (hX : va_X bb L xs (v_s X) (v_s X).heap) (hbl : bb < (v_s X).heap.size) (hbA : ¬ v_AA X bb)   {K18 : vSt → Int32 → Prop} (hK18 : ∀ S x3, K18 S x3 → VJ X G S 18 [(0, .ref bb), (1, .ref (G.1 0)), (2, .ref (G.1 143)), (3, .int x3)] []) : ∀ (S : vSt) (x3 : Int32), p_law_518 L xs K18 post S x3 → VJ X G S 518 [(0, .ref bb), (1, .ref (G.1 0)), (2, .ref (G.1 143)), (3, .int x3)] [] := by
  intro S x3 h
  refine V_aload_n C 1 dL_law_518 rfl rfl ?_
  refine V_aload_n C 0 dL_law_519 rfl rfl ?_
  refine V_iload_n C 3 dL_law_520 rfl rfl ?_
  refine V_iconst (v := 1) C dL_law_521 (by decide) ?_
  refine V_iadd C dL_law_522 ?_
  obtain ⟨hi, h⟩ := h
  refine V_sld C hX hbl hbA hi dL_law_523 ?_
  refine V_aload_n C 0 dL_law_524 rfl rfl ?_
  refine V_iload_n C 3 dL_law_525 rfl rfl ?_
  refine V_iconst (v := 2) C dL_law_526 (by decide) ?_
  refine V_iadd C dL_law_527 ?_
  obtain ⟨hi, h⟩ := h
  refine V_sld C hX hbl hbA hi dL_law_528 ?_
  refine V_aload_n C 0 dL_law_529 rfl rfl ?_
  refine V_iload_n C 3 dL_law_530 rfl rfl ?_
  refine V_iconst (v := 3) C dL_law_531 (by decide) ?_
  refine V_iadd C dL_law_532 ?_
  obtain ⟨hi, h⟩ := h
  refine V_sld C hX hbl hbA hi dL_law_533 ?_
  refine V_aload_n C 0 dL_law_534 rfl rfl ?_
  refine V_iload_n C 3 dL_law_535 rfl rfl ?_
  refine V_iconst (v := 4) C dL_law_536 (by decide) ?_
  refine V_iadd C dL_law_537 ?_
  obtain ⟨hi, h⟩ := h
  refine V_sld C hX hbl hbA hi dL_law_538 ?_
  refine V_aload_n C 0 dL_law_539 rfl rfl ?_
  refine V_iload_n C 3 dL_law_540 rfl rfl ?_
  refine V_iconst (v := 5) C dL_law_541 (by decide) ?_
  refine V_iadd C dL_law_542 ?_
  obtain ⟨hi, h⟩ := h
  refine V_sld C hX hbl hbA hi dL_law_543 ?_
  refine V_callVi (As := [.int (xs (Int32.toNatClampNeg (x3 + 1))), .int (xs (Int32.toNatClampNeg (x3 + 2))), .int (xs (Int32.toNatClampNeg (x3 + 3))), .int (xs (Int32.toNatClampNeg (x3 + 4))), .int (xs (Int32.toNatClampNeg (x3 + 5)))]) (rest := []) C (c_X10_feed (v_l X) G  _ _ _ _ _ _ h) 0 10 (by decide) (by decide) (by decide) rfl KV_X10_feed k_RL_49 rfl rfl rfl (Nat.le_of_ble_eq_true rfl) ⟨by decide, by decide⟩ dL_law_544 (fun r219 S218 h => ?_)
  refine V_aload_n C 2 dL_law_547 rfl rfl ?_
  refine V_aload_n C 0 dL_law_548 rfl rfl ?_
  refine V_iload_n C 3 dL_law_549 rfl rfl ?_
  refine V_iconst (v := 1) C dL_law_550 (by decide) ?_
  refine V_iadd C dL_law_551 ?_
  obtain ⟨hi, h⟩ := h
  refine V_sld C hX hbl hbA hi dL_law_552 ?_
  refine V_aload_n C 0 dL_law_553 rfl rfl ?_
  refine V_iload_n C 3 dL_law_554 rfl rfl ?_
  refine V_iconst (v := 2) C dL_law_555 (by decide) ?_
  refine V_iadd C dL_law_556 ?_
  obtain ⟨hi, h⟩ := h
  refine V_sld C hX hbl hbA hi dL_law_557 ?_
  refine V_aload_n C 0 dL_law_558 rfl rfl ?_
  refine V_iload_n C 3 dL_law_559 rfl rfl ?_
  refine V_iconst (v := 3) C dL_law_560 (by decide) ?_
  refine V_iadd C dL_law_561 ?_
  obtain ⟨hi, h⟩ := h
  refine V_sld C hX hbl hbA hi dL_law_562 ?_
  refine V_aload_n C 0 dL_law_563 rfl rfl ?_
  refine V_iload_n C 3 dL_law_564 rfl rfl ?_
  refine V_iconst (v := 4) C dL_law_565 (by decide) ?_
  refine V_iadd C dL_law_566 ?_
  obtain ⟨hi, h⟩ := h
  refine V_sld C hX hbl hbA hi dL_law_567 ?_
  refine V_aload_n C 0 dL_law_568 rfl rfl ?_
  refine V_iload_n C 3 dL_law_569 rfl rfl ?_
  refine V_iconst (v := 5) C dL_law_570 (by decide) ?_
  refine V_iadd C dL_law_571 ?_
  obtain ⟨hi, h⟩ := h
  refine V_sld C hX hbl hbA hi dL_law_572 ?_
  refine V_callVi (As := [.int (xs (Int32.toNatClampNeg (x3 + 1))), .int (xs (Int32.toNatClampNeg (x3 + 2))), .int (xs (Int32.toNatClampNeg (x3 + 3))), .int (xs (Int32.toNatClampNeg (x3 + 4))), .int (xs (Int32.toNatClampNeg (x3 + 5)))]) (rest := [.int r219]) C (c_X11_feed (v_l X) G  _ _ _ _ _ _ h) 143 11 (by decide) (by decide) (by decide) rfl KV_X11_feed k_RL_53 rfl rfl rfl (Nat.le_of_ble_eq_true rfl) ⟨by decide, by decide⟩ dL_law_573 (fun r221 S220 h => ?_)
  refine V_icmp_eq (tgt := 1939) C dL_law_576 (by decide) (fun c => ?_) (fun c => ?_)
  · have h := h.1 c
    exact q_law_1939 C D hX hbl hbA hK18 _ _ h
  · have h := h.2 c
    refine V_iconst (v := 0) C dL_law_579 (by decide) ?_
    exact h.elim
set_option maxHeartbeats 16000000 in
set_option maxRecDepth 100000 in
theorem q_law_581 {X : vX} {G : vG}  {post : Unit} (C : v_Cx X G cL_law RL 4 room_1) (D : ∀ H locs ls, va_S (v_AA X) (v_s X).heap H locs → v_W X H locs (F0 (v_m X) 1946 ls [.int 1])) {bb L : Nat} {xs : Nat → Int32} (hX : va_X bb L xs (v_s X) (v_s X).heap) (hbl : bb < (v_s X).heap.size) (hbA : ¬ v_AA X bb)   {K18 : vSt → Int32 → Prop} (hK18 : ∀ S x3, K18 S x3 → VJ X G S 18 [(0, .ref bb), (1, .ref (G.1 0)), (2, .ref (G.1 143)), (3, .int x3)] []) : ∀ (S : vSt) (x3 : Int32), p_law_581 L xs K18 post S x3 → VJ X G S 581 [(0, .ref bb), (1, .ref (G.1 0)), (2, .ref (G.1 143)), (3, .int x3)] [] := by
  intro S x3 h
  refine V_aload_n C 1 dL_law_581 rfl rfl ?_
  refine V_aload_n C 0 dL_law_582 rfl rfl ?_
  refine V_iload_n C 3 dL_law_583 rfl rfl ?_
  refine V_iconst (v := 1) C dL_law_584 (by decide) ?_
  refine V_iadd C dL_law_585 ?_
  obtain ⟨hi, h⟩ := h
  refine V_sld C hX hbl hbA hi dL_law_586 ?_
  refine V_callVi (As := [.int (xs (Int32.toNatClampNeg (x3 + 1)))]) (rest := []) C (c_X10_city (v_l X) G  _ _ h) 0 10 (by decide) (by decide) (by decide) rfl KV_X10_city k_RL_54 rfl rfl rfl (Nat.le_of_ble_eq_true rfl) ⟨by decide, by decide⟩ dL_law_587 (fun r219 S218 h => ?_)
  refine V_aload_n C 2 dL_law_590 rfl rfl ?_
  refine V_aload_n C 0 dL_law_591 rfl rfl ?_
  refine V_iload_n C 3 dL_law_592 rfl rfl ?_
  refine V_iconst (v := 1) C dL_law_593 (by decide) ?_
  refine V_iadd C dL_law_594 ?_
  obtain ⟨hi, h⟩ := h
  refine V_sld C hX hbl hbA hi dL_law_595 ?_
  refine V_callVi (As := [.int (xs (Int32.toNatClampNeg (x3 + 1)))]) (rest := [.int r219]) C (c_X11_city (v_l X) G  _ _ h) 143 11 (by decide) (by decide) (by decide) rfl KV_X11_city k_RL_58 rfl rfl rfl (Nat.le_of_ble_eq_true rfl) ⟨by decide, by decide⟩ dL_law_596 (fun r221 S220 h => ?_)
  refine V_icmp_eq (tgt := 1939) C dL_law_599 (by decide) (fun c => ?_) (fun c => ?_)
  · have h := h.1 c
    exact q_law_1939 C D hX hbl hbA hK18 _ _ h
  · have h := h.2 c
    refine V_iconst (v := 0) C dL_law_602 (by decide) ?_
    exact h.elim
set_option maxHeartbeats 16000000 in
set_option maxRecDepth 100000 in
theorem q_law_604 {X : vX} {G : vG}  {post : Unit} (C : v_Cx X G cL_law RL 4 room_1) (D : ∀ H locs ls, va_S (v_AA X) (v_s X).heap H locs → v_W X H locs (F0 (v_m X) 1946 ls [.int 1])) {bb L : Nat} {xs : Nat → Int32} (hX : va_X bb L xs (v_s X) (v_s X).heap) (hbl : bb < (v_s X).heap.size) (hbA : ¬ v_AA X bb)   {K18 : vSt → Int32 → Prop} (hK18 : ∀ S x3, K18 S x3 → VJ X G S 18 [(0, .ref bb), (1, .ref (G.1 0)), (2, .ref (G.1 143)), (3, .int x3)] []) : ∀ (S : vSt) (x3 : Int32), p_law_604 L xs K18 post S x3 → VJ X G S 604 [(0, .ref bb), (1, .ref (G.1 0)), (2, .ref (G.1 143)), (3, .int x3)] [] := by
  intro S x3 h
  refine V_aload_n C 1 dL_law_604 rfl rfl ?_
  refine V_aload_n C 0 dL_law_605 rfl rfl ?_
  refine V_iload_n C 3 dL_law_606 rfl rfl ?_
  refine V_iconst (v := 1) C dL_law_607 (by decide) ?_
  refine V_iadd C dL_law_608 ?_
  obtain ⟨hi, h⟩ := h
  refine V_sld C hX hbl hbA hi dL_law_609 ?_
  refine V_callVi (As := [.int (xs (Int32.toNatClampNeg (x3 + 1)))]) (rest := []) C (c_X10_years (v_l X) G  _ _ h) 0 10 (by decide) (by decide) (by decide) rfl KV_X10_years k_RL_59 rfl rfl rfl (Nat.le_of_ble_eq_true rfl) ⟨by decide, by decide⟩ dL_law_610 (fun r219 S218 h => ?_)
  refine V_aload_n C 2 dL_law_613 rfl rfl ?_
  refine V_aload_n C 0 dL_law_614 rfl rfl ?_
  refine V_iload_n C 3 dL_law_615 rfl rfl ?_
  refine V_iconst (v := 1) C dL_law_616 (by decide) ?_
  refine V_iadd C dL_law_617 ?_
  obtain ⟨hi, h⟩ := h
  refine V_sld C hX hbl hbA hi dL_law_618 ?_
  refine V_callVi (As := [.int (xs (Int32.toNatClampNeg (x3 + 1)))]) (rest := [.int r219]) C (c_X11_years (v_l X) G  _ _ h) 143 11 (by decide) (by decide) (by decide) rfl KV_X11_years k_RL_62 rfl rfl rfl (Nat.le_of_ble_eq_true rfl) ⟨by decide, by decide⟩ dL_law_619 (fun r221 S220 h => ?_)
  refine V_icmp_eq (tgt := 1939) C dL_law_622 (by decide) (fun c => ?_) (fun c => ?_)
  · have h := h.1 c
    exact q_law_1939 C D hX hbl hbA hK18 _ _ h
  · have h := h.2 c
    refine V_iconst (v := 0) C dL_law_625 (by decide) ?_
    exact h.elim
set_option maxHeartbeats 16000000 in
set_option maxRecDepth 100000 in
theorem q_law_627 {X : vX} {G : vG}  {post : Unit} (C : v_Cx X G cL_law RL 4 room_1) (D : ∀ H locs ls, va_S (v_AA X) (v_s X).heap H locs → v_W X H locs (F0 (v_m X) 1946 ls [.int 1])) {bb L : Nat} {xs : Nat → Int32} (hX : va_X bb L xs (v_s X) (v_s X).heap) (hbl : bb < (v_s X).heap.size) (hbA : ¬ v_AA X bb)   {K18 : vSt → Int32 → Prop} (hK18 : ∀ S x3, K18 S x3 → VJ X G S 18 [(0, .ref bb), (1, .ref (G.1 0)), (2, .ref (G.1 143)), (3, .int x3)] []) : ∀ (S : vSt) (x3 : Int32), p_law_627 L xs K18 post S x3 → VJ X G S 627 [(0, .ref bb), (1, .ref (G.1 0)), (2, .ref (G.1 143)), (3, .int x3)] [] := by
  intro S x3 h
  refine V_aload_n C 1 dL_law_627 rfl rfl ?_
  refine V_aload_n C 0 dL_law_628 rfl rfl ?_
  refine V_iload_n C 3 dL_law_629 rfl rfl ?_
  refine V_iconst (v := 1) C dL_law_630 (by decide) ?_
  refine V_iadd C dL_law_631 ?_
  obtain ⟨hi, h⟩ := h
  refine V_sld C hX hbl hbA hi dL_law_632 ?_
  refine V_callVi (As := [.int (xs (Int32.toNatClampNeg (x3 + 1)))]) (rest := []) C (c_X10_fault (v_l X) G  _ _ h) 0 10 (by decide) (by decide) (by decide) rfl KV_X10_fault k_RL_63 rfl rfl rfl (Nat.le_of_ble_eq_true rfl) ⟨by decide, by decide⟩ dL_law_633 (fun r219 S218 h => ?_)
  refine V_aload_n C 2 dL_law_636 rfl rfl ?_
  refine V_aload_n C 0 dL_law_637 rfl rfl ?_
  refine V_iload_n C 3 dL_law_638 rfl rfl ?_
  refine V_iconst (v := 1) C dL_law_639 (by decide) ?_
  refine V_iadd C dL_law_640 ?_
  obtain ⟨hi, h⟩ := h
  refine V_sld C hX hbl hbA hi dL_law_641 ?_
  refine V_callVi (As := [.int (xs (Int32.toNatClampNeg (x3 + 1)))]) (rest := [.int r219]) C (c_X11_fault (v_l X) G  _ _ h) 143 11 (by decide) (by decide) (by decide) rfl KV_X11_fault k_RL_66 rfl rfl rfl (Nat.le_of_ble_eq_true rfl) ⟨by decide, by decide⟩ dL_law_642 (fun r221 S220 h => ?_)
  refine V_icmp_eq (tgt := 1939) C dL_law_645 (by decide) (fun c => ?_) (fun c => ?_)
  · have h := h.1 c
    exact q_law_1939 C D hX hbl hbA hK18 _ _ h
  · have h := h.2 c
    refine V_iconst (v := 0) C dL_law_648 (by decide) ?_
    exact h.elim
set_option maxHeartbeats 16000000 in
set_option maxRecDepth 100000 in
theorem q_law_650 {X : vX} {G : vG}  {post : Unit} (C : v_Cx X G cL_law RL 4 room_1) (D : ∀ H locs ls, va_S (v_AA X) (v_s X).heap H locs → v_W X H locs (F0 (v_m X) 1946 ls [.int 1])) {bb L : Nat} {xs : Nat → Int32} (hX : va_X bb L xs (v_s X) (v_s X).heap) (hbl : bb < (v_s X).heap.size) (hbA : ¬ v_AA X bb)   {K18 : vSt → Int32 → Prop} (hK18 : ∀ S x3, K18 S x3 → VJ X G S 18 [(0, .ref bb), (1, .ref (G.1 0)), (2, .ref (G.1 143)), (3, .int x3)] []) : ∀ (S : vSt) (x3 : Int32), p_law_650 L xs K18 post S x3 → VJ X G S 650 [(0, .ref bb), (1, .ref (G.1 0)), (2, .ref (G.1 143)), (3, .int x3)] [] := by
  intro S x3 h
  refine V_aload_n C 1 dL_law_650 rfl rfl ?_
  refine V_aload_n C 0 dL_law_651 rfl rfl ?_
  refine V_iload_n C 3 dL_law_652 rfl rfl ?_
  refine V_iconst (v := 1) C dL_law_653 (by decide) ?_
  refine V_iadd C dL_law_654 ?_
  obtain ⟨hi, h⟩ := h
  refine V_sld C hX hbl hbA hi dL_law_655 ?_
  refine V_callVi (As := [.int (xs (Int32.toNatClampNeg (x3 + 1)))]) (rest := []) C (c_X10_many (v_l X) G  _ _ h) 0 10 (by decide) (by decide) (by decide) rfl KV_X10_many k_RL_67 rfl rfl rfl (Nat.le_of_ble_eq_true rfl) ⟨by decide, by decide⟩ dL_law_656 (fun r219 S218 h => ?_)
  refine V_aload_n C 2 dL_law_659 rfl rfl ?_
  refine V_aload_n C 0 dL_law_660 rfl rfl ?_
  refine V_iload_n C 3 dL_law_661 rfl rfl ?_
  refine V_iconst (v := 1) C dL_law_662 (by decide) ?_
  refine V_iadd C dL_law_663 ?_
  obtain ⟨hi, h⟩ := h
  refine V_sld C hX hbl hbA hi dL_law_664 ?_
  refine V_callVi (As := [.int (xs (Int32.toNatClampNeg (x3 + 1)))]) (rest := [.int r219]) C (c_X11_many (v_l X) G  _ _ h) 143 11 (by decide) (by decide) (by decide) rfl KV_X11_many k_RL_70 rfl rfl rfl (Nat.le_of_ble_eq_true rfl) ⟨by decide, by decide⟩ dL_law_665 (fun r221 S220 h => ?_)
  refine V_icmp_eq (tgt := 1939) C dL_law_668 (by decide) (fun c => ?_) (fun c => ?_)
  · have h := h.1 c
    exact q_law_1939 C D hX hbl hbA hK18 _ _ h
  · have h := h.2 c
    refine V_iconst (v := 0) C dL_law_671 (by decide) ?_
    exact h.elim
set_option maxHeartbeats 16000000 in
set_option maxRecDepth 100000 in
theorem q_law_673 {X : vX} {G : vG}  {post : Unit} (C : v_Cx X G cL_law RL 4 room_1) (D : ∀ H locs ls, va_S (v_AA X) (v_s X).heap H locs → v_W X H locs (F0 (v_m X) 1946 ls [.int 1])) {bb L : Nat} {xs : Nat → Int32} (hX : va_X bb L xs (v_s X) (v_s X).heap) (hbl : bb < (v_s X).heap.size) (hbA : ¬ v_AA X bb)   {K18 : vSt → Int32 → Prop} (hK18 : ∀ S x3, K18 S x3 → VJ X G S 18 [(0, .ref bb), (1, .ref (G.1 0)), (2, .ref (G.1 143)), (3, .int x3)] []) : ∀ (S : vSt) (x3 : Int32), p_law_673 L xs K18 post S x3 → VJ X G S 673 [(0, .ref bb), (1, .ref (G.1 0)), (2, .ref (G.1 143)), (3, .int x3)] [] := by
  intro S x3 h
  refine V_aload_n C 1 dL_law_673 rfl rfl ?_
  refine V_aload_n C 0 dL_law_674 rfl rfl ?_
  refine V_iload_n C 3 dL_law_675 rfl rfl ?_
  refine V_iconst (v := 1) C dL_law_676 (by decide) ?_
  refine V_iadd C dL_law_677 ?_
  obtain ⟨hi, h⟩ := h
  refine V_sld C hX hbl hbA hi dL_law_678 ?_
  refine V_aload_n C 0 dL_law_679 rfl rfl ?_
  refine V_iload_n C 3 dL_law_680 rfl rfl ?_
  refine V_iconst (v := 2) C dL_law_681 (by decide) ?_
  refine V_iadd C dL_law_682 ?_
  obtain ⟨hi, h⟩ := h
  refine V_sld C hX hbl hbA hi dL_law_683 ?_
  refine V_callVi (As := [.int (xs (Int32.toNatClampNeg (x3 + 1))), .int (xs (Int32.toNatClampNeg (x3 + 2)))]) (rest := []) C (c_X10_person (v_l X) G  _ _ _ h) 0 10 (by decide) (by decide) (by decide) rfl KV_X10_person k_RL_71 rfl rfl rfl (Nat.le_of_ble_eq_true rfl) ⟨by decide, by decide⟩ dL_law_684 (fun r219 S218 h => ?_)
  refine V_aload_n C 2 dL_law_687 rfl rfl ?_
  refine V_aload_n C 0 dL_law_688 rfl rfl ?_
  refine V_iload_n C 3 dL_law_689 rfl rfl ?_
  refine V_iconst (v := 1) C dL_law_690 (by decide) ?_
  refine V_iadd C dL_law_691 ?_
  obtain ⟨hi, h⟩ := h
  refine V_sld C hX hbl hbA hi dL_law_692 ?_
  refine V_aload_n C 0 dL_law_693 rfl rfl ?_
  refine V_iload_n C 3 dL_law_694 rfl rfl ?_
  refine V_iconst (v := 2) C dL_law_695 (by decide) ?_
  refine V_iadd C dL_law_696 ?_
  obtain ⟨hi, h⟩ := h
  refine V_sld C hX hbl hbA hi dL_law_697 ?_
  refine V_callVi (As := [.int (xs (Int32.toNatClampNeg (x3 + 1))), .int (xs (Int32.toNatClampNeg (x3 + 2)))]) (rest := [.int r219]) C (c_X11_person (v_l X) G  _ _ _ h) 143 11 (by decide) (by decide) (by decide) rfl KV_X11_person k_RL_75 rfl rfl rfl (Nat.le_of_ble_eq_true rfl) ⟨by decide, by decide⟩ dL_law_698 (fun r221 S220 h => ?_)
  refine V_icmp_eq (tgt := 1939) C dL_law_701 (by decide) (fun c => ?_) (fun c => ?_)
  · have h := h.1 c
    exact q_law_1939 C D hX hbl hbA hK18 _ _ h
  · have h := h.2 c
    refine V_iconst (v := 0) C dL_law_704 (by decide) ?_
    exact h.elim
set_option maxHeartbeats 16000000 in
set_option maxRecDepth 100000 in
theorem q_law_706 {X : vX} {G : vG}  {post : Unit} (C : v_Cx X G cL_law RL 4 room_1) (D : ∀ H locs ls, va_S (v_AA X) (v_s X).heap H locs → v_W X H locs (F0 (v_m X) 1946 ls [.int 1])) {bb L : Nat} {xs : Nat → Int32} (hX : va_X bb L xs (v_s X) (v_s X).heap) (hbl : bb < (v_s X).heap.size) (hbA : ¬ v_AA X bb)   {K18 : vSt → Int32 → Prop} (hK18 : ∀ S x3, K18 S x3 → VJ X G S 18 [(0, .ref bb), (1, .ref (G.1 0)), (2, .ref (G.1 143)), (3, .int x3)] []) : ∀ (S : vSt) (x3 : Int32), p_law_706 L xs K18 post S x3 → VJ X G S 706 [(0, .ref bb), (1, .ref (G.1 0)), (2, .ref (G.1 143)), (3, .int x3)] [] := by
  intro S x3 h
  refine V_aload_n C 1 dL_law_706 rfl rfl ?_
  refine V_aload_n C 0 dL_law_707 rfl rfl ?_
  refine V_iload_n C 3 dL_law_708 rfl rfl ?_
  refine V_iconst (v := 1) C dL_law_709 (by decide) ?_
  refine V_iadd C dL_law_710 ?_
  obtain ⟨hi, h⟩ := h
  refine V_sld C hX hbl hbA hi dL_law_711 ?_
  refine V_aload_n C 0 dL_law_712 rfl rfl ?_
  refine V_iload_n C 3 dL_law_713 rfl rfl ?_
  refine V_iconst (v := 2) C dL_law_714 (by decide) ?_
  refine V_iadd C dL_law_715 ?_
  obtain ⟨hi, h⟩ := h
  refine V_sld C hX hbl hbA hi dL_law_716 ?_
  refine V_callVi (As := [.int (xs (Int32.toNatClampNeg (x3 + 1))), .int (xs (Int32.toNatClampNeg (x3 + 2)))]) (rest := []) C (c_X10_deed (v_l X) G  _ _ _ h) 0 10 (by decide) (by decide) (by decide) rfl KV_X10_deed k_RL_76 rfl rfl rfl (Nat.le_of_ble_eq_true rfl) ⟨by decide, by decide⟩ dL_law_717 (fun r219 S218 h => ?_)
  refine V_aload_n C 2 dL_law_720 rfl rfl ?_
  refine V_aload_n C 0 dL_law_721 rfl rfl ?_
  refine V_iload_n C 3 dL_law_722 rfl rfl ?_
  refine V_iconst (v := 1) C dL_law_723 (by decide) ?_
  refine V_iadd C dL_law_724 ?_
  obtain ⟨hi, h⟩ := h
  refine V_sld C hX hbl hbA hi dL_law_725 ?_
  refine V_aload_n C 0 dL_law_726 rfl rfl ?_
  refine V_iload_n C 3 dL_law_727 rfl rfl ?_
  refine V_iconst (v := 2) C dL_law_728 (by decide) ?_
  refine V_iadd C dL_law_729 ?_
  obtain ⟨hi, h⟩ := h
  refine V_sld C hX hbl hbA hi dL_law_730 ?_
  refine V_callVi (As := [.int (xs (Int32.toNatClampNeg (x3 + 1))), .int (xs (Int32.toNatClampNeg (x3 + 2)))]) (rest := [.int r219]) C (c_X11_deed (v_l X) G  _ _ _ h) 143 11 (by decide) (by decide) (by decide) rfl KV_X11_deed k_RL_79 rfl rfl rfl (Nat.le_of_ble_eq_true rfl) ⟨by decide, by decide⟩ dL_law_731 (fun r221 S220 h => ?_)
  refine V_icmp_eq (tgt := 1939) C dL_law_734 (by decide) (fun c => ?_) (fun c => ?_)
  · have h := h.1 c
    exact q_law_1939 C D hX hbl hbA hK18 _ _ h
  · have h := h.2 c
    refine V_iconst (v := 0) C dL_law_737 (by decide) ?_
    exact h.elim
set_option maxHeartbeats 16000000 in
set_option maxRecDepth 100000 in
theorem q_law_739 {X : vX} {G : vG}  {post : Unit} (C : v_Cx X G cL_law RL 4 room_1) (D : ∀ H locs ls, va_S (v_AA X) (v_s X).heap H locs → v_W X H locs (F0 (v_m X) 1946 ls [.int 1])) {bb L : Nat} {xs : Nat → Int32} (hX : va_X bb L xs (v_s X) (v_s X).heap) (hbl : bb < (v_s X).heap.size) (hbA : ¬ v_AA X bb)   {K18 : vSt → Int32 → Prop} (hK18 : ∀ S x3, K18 S x3 → VJ X G S 18 [(0, .ref bb), (1, .ref (G.1 0)), (2, .ref (G.1 143)), (3, .int x3)] []) : ∀ (S : vSt) (x3 : Int32), p_law_739 L xs K18 post S x3 → VJ X G S 739 [(0, .ref bb), (1, .ref (G.1 0)), (2, .ref (G.1 143)), (3, .int x3)] [] := by
  intro S x3 h
  refine V_aload_n C 1 dL_law_739 rfl rfl ?_
  refine V_aload_n C 0 dL_law_740 rfl rfl ?_
  refine V_iload_n C 3 dL_law_741 rfl rfl ?_
  refine V_iconst (v := 1) C dL_law_742 (by decide) ?_
  refine V_iadd C dL_law_743 ?_
  obtain ⟨hi, h⟩ := h
  refine V_sld C hX hbl hbA hi dL_law_744 ?_
  refine V_callVi (As := [.int (xs (Int32.toNatClampNeg (x3 + 1)))]) (rest := []) C (c_X10_copyCoins (v_l X) G  _ _ h) 0 10 (by decide) (by decide) (by decide) rfl KV_X10_copyCoins k_RL_80 rfl rfl rfl (Nat.le_of_ble_eq_true rfl) ⟨by decide, by decide⟩ dL_law_745 (fun r219 S218 h => ?_)
  refine V_aload_n C 2 dL_law_748 rfl rfl ?_
  refine V_aload_n C 0 dL_law_749 rfl rfl ?_
  refine V_iload_n C 3 dL_law_750 rfl rfl ?_
  refine V_iconst (v := 1) C dL_law_751 (by decide) ?_
  refine V_iadd C dL_law_752 ?_
  obtain ⟨hi, h⟩ := h
  refine V_sld C hX hbl hbA hi dL_law_753 ?_
  refine V_callVi (As := [.int (xs (Int32.toNatClampNeg (x3 + 1)))]) (rest := [.int r219]) C (c_X11_copyCoins (v_l X) G  _ _ h) 143 11 (by decide) (by decide) (by decide) rfl KV_X11_copyCoins k_RL_83 rfl rfl rfl (Nat.le_of_ble_eq_true rfl) ⟨by decide, by decide⟩ dL_law_754 (fun r221 S220 h => ?_)
  refine V_icmp_eq (tgt := 1939) C dL_law_757 (by decide) (fun c => ?_) (fun c => ?_)
  · have h := h.1 c
    exact q_law_1939 C D hX hbl hbA hK18 _ _ h
  · have h := h.2 c
    refine V_iconst (v := 0) C dL_law_760 (by decide) ?_
    exact h.elim
set_option maxHeartbeats 16000000 in
set_option maxRecDepth 100000 in
theorem q_law_762 {X : vX} {G : vG}  {post : Unit} (C : v_Cx X G cL_law RL 4 room_1) (D : ∀ H locs ls, va_S (v_AA X) (v_s X).heap H locs → v_W X H locs (F0 (v_m X) 1946 ls [.int 1])) {bb L : Nat} {xs : Nat → Int32} (hX : va_X bb L xs (v_s X) (v_s X).heap) (hbl : bb < (v_s X).heap.size) (hbA : ¬ v_AA X bb)   {K18 : vSt → Int32 → Prop} (hK18 : ∀ S x3, K18 S x3 → VJ X G S 18 [(0, .ref bb), (1, .ref (G.1 0)), (2, .ref (G.1 143)), (3, .int x3)] []) : ∀ (S : vSt) (x3 : Int32), p_law_762 L xs K18 post S x3 → VJ X G S 762 [(0, .ref bb), (1, .ref (G.1 0)), (2, .ref (G.1 143)), (3, .int x3)] [] := by
  intro S x3 h
  refine V_aload_n C 1 dL_law_762 rfl rfl ?_
  refine V_aload_n C 0 dL_law_763 rfl rfl ?_
  refine V_iload_n C 3 dL_law_764 rfl rfl ?_
  refine V_iconst (v := 1) C dL_law_765 (by decide) ?_
  refine V_iadd C dL_law_766 ?_
  obtain ⟨hi, h⟩ := h
  refine V_sld C hX hbl hbA hi dL_law_767 ?_
  refine V_aload_n C 0 dL_law_768 rfl rfl ?_
  refine V_iload_n C 3 dL_law_769 rfl rfl ?_
  refine V_iconst (v := 2) C dL_law_770 (by decide) ?_
  refine V_iadd C dL_law_771 ?_
  obtain ⟨hi, h⟩ := h
  refine V_sld C hX hbl hbA hi dL_law_772 ?_
  refine V_aload_n C 0 dL_law_773 rfl rfl ?_
  refine V_iload_n C 3 dL_law_774 rfl rfl ?_
  refine V_iconst (v := 3) C dL_law_775 (by decide) ?_
  refine V_iadd C dL_law_776 ?_
  obtain ⟨hi, h⟩ := h
  refine V_sld C hX hbl hbA hi dL_law_777 ?_
  refine V_callVi (As := [.int (xs (Int32.toNatClampNeg (x3 + 1))), .int (xs (Int32.toNatClampNeg (x3 + 2))), .int (xs (Int32.toNatClampNeg (x3 + 3)))]) (rest := []) C (c_X10_charge (v_l X) G  _ _ _ _ h) 0 10 (by decide) (by decide) (by decide) rfl KV_X10_charge k_RL_84 rfl rfl rfl (Nat.le_of_ble_eq_true rfl) ⟨by decide, by decide⟩ dL_law_778 (fun r219 S218 h => ?_)
  refine V_aload_n C 2 dL_law_781 rfl rfl ?_
  refine V_aload_n C 0 dL_law_782 rfl rfl ?_
  refine V_iload_n C 3 dL_law_783 rfl rfl ?_
  refine V_iconst (v := 1) C dL_law_784 (by decide) ?_
  refine V_iadd C dL_law_785 ?_
  obtain ⟨hi, h⟩ := h
  refine V_sld C hX hbl hbA hi dL_law_786 ?_
  refine V_aload_n C 0 dL_law_787 rfl rfl ?_
  refine V_iload_n C 3 dL_law_788 rfl rfl ?_
  refine V_iconst (v := 2) C dL_law_789 (by decide) ?_
  refine V_iadd C dL_law_790 ?_
  obtain ⟨hi, h⟩ := h
  refine V_sld C hX hbl hbA hi dL_law_791 ?_
  refine V_aload_n C 0 dL_law_792 rfl rfl ?_
  refine V_iload_n C 3 dL_law_793 rfl rfl ?_
  refine V_iconst (v := 3) C dL_law_794 (by decide) ?_
  refine V_iadd C dL_law_795 ?_
  obtain ⟨hi, h⟩ := h
  refine V_sld C hX hbl hbA hi dL_law_796 ?_
  refine V_callVi (As := [.int (xs (Int32.toNatClampNeg (x3 + 1))), .int (xs (Int32.toNatClampNeg (x3 + 2))), .int (xs (Int32.toNatClampNeg (x3 + 3)))]) (rest := [.int r219]) C (c_X11_charge (v_l X) G  _ _ _ _ h) 143 11 (by decide) (by decide) (by decide) rfl KV_X11_charge k_RL_88 rfl rfl rfl (Nat.le_of_ble_eq_true rfl) ⟨by decide, by decide⟩ dL_law_797 (fun r221 S220 h => ?_)
  refine V_icmp_eq (tgt := 1939) C dL_law_800 (by decide) (fun c => ?_) (fun c => ?_)
  · have h := h.1 c
    exact q_law_1939 C D hX hbl hbA hK18 _ _ h
  · have h := h.2 c
    refine V_iconst (v := 0) C dL_law_803 (by decide) ?_
    exact h.elim
set_option maxHeartbeats 16000000 in
set_option maxRecDepth 100000 in
theorem q_law_805 {X : vX} {G : vG}  {post : Unit} (C : v_Cx X G cL_law RL 4 room_1) (D : ∀ H locs ls, va_S (v_AA X) (v_s X).heap H locs → v_W X H locs (F0 (v_m X) 1946 ls [.int 1])) {bb L : Nat} {xs : Nat → Int32} (hX : va_X bb L xs (v_s X) (v_s X).heap) (hbl : bb < (v_s X).heap.size) (hbA : ¬ v_AA X bb)   {K18 : vSt → Int32 → Prop} (hK18 : ∀ S x3, K18 S x3 → VJ X G S 18 [(0, .ref bb), (1, .ref (G.1 0)), (2, .ref (G.1 143)), (3, .int x3)] []) : ∀ (S : vSt) (x3 : Int32), p_law_805 L xs K18 post S x3 → VJ X G S 805 [(0, .ref bb), (1, .ref (G.1 0)), (2, .ref (G.1 143)), (3, .int x3)] [] := by
  intro S x3 h
  refine V_aload_n C 1 dL_law_805 rfl rfl ?_
  refine V_aload_n C 0 dL_law_806 rfl rfl ?_
  refine V_iload_n C 3 dL_law_807 rfl rfl ?_
  refine V_iconst (v := 1) C dL_law_808 (by decide) ?_
  refine V_iadd C dL_law_809 ?_
  obtain ⟨hi, h⟩ := h
  refine V_sld C hX hbl hbA hi dL_law_810 ?_
  refine V_aload_n C 0 dL_law_811 rfl rfl ?_
  refine V_iload_n C 3 dL_law_812 rfl rfl ?_
  refine V_iconst (v := 2) C dL_law_813 (by decide) ?_
  refine V_iadd C dL_law_814 ?_
  obtain ⟨hi, h⟩ := h
  refine V_sld C hX hbl hbA hi dL_law_815 ?_
  refine V_aload_n C 0 dL_law_816 rfl rfl ?_
  refine V_iload_n C 3 dL_law_817 rfl rfl ?_
  refine V_iconst (v := 3) C dL_law_818 (by decide) ?_
  refine V_iadd C dL_law_819 ?_
  obtain ⟨hi, h⟩ := h
  refine V_sld C hX hbl hbA hi dL_law_820 ?_
  refine V_callVi (As := [.int (xs (Int32.toNatClampNeg (x3 + 1))), .int (xs (Int32.toNatClampNeg (x3 + 2))), .int (xs (Int32.toNatClampNeg (x3 + 3)))]) (rest := []) C (c_X10_hear (v_l X) G  _ _ _ _ h) 0 10 (by decide) (by decide) (by decide) rfl KV_X10_hear k_RL_89 rfl rfl rfl (Nat.le_of_ble_eq_true rfl) ⟨by decide, by decide⟩ dL_law_821 (fun r219 S218 h => ?_)
  refine V_aload_n C 2 dL_law_824 rfl rfl ?_
  refine V_aload_n C 0 dL_law_825 rfl rfl ?_
  refine V_iload_n C 3 dL_law_826 rfl rfl ?_
  refine V_iconst (v := 1) C dL_law_827 (by decide) ?_
  refine V_iadd C dL_law_828 ?_
  obtain ⟨hi, h⟩ := h
  refine V_sld C hX hbl hbA hi dL_law_829 ?_
  refine V_aload_n C 0 dL_law_830 rfl rfl ?_
  refine V_iload_n C 3 dL_law_831 rfl rfl ?_
  refine V_iconst (v := 2) C dL_law_832 (by decide) ?_
  refine V_iadd C dL_law_833 ?_
  obtain ⟨hi, h⟩ := h
  refine V_sld C hX hbl hbA hi dL_law_834 ?_
  refine V_aload_n C 0 dL_law_835 rfl rfl ?_
  refine V_iload_n C 3 dL_law_836 rfl rfl ?_
  refine V_iconst (v := 3) C dL_law_837 (by decide) ?_
  refine V_iadd C dL_law_838 ?_
  obtain ⟨hi, h⟩ := h
  refine V_sld C hX hbl hbA hi dL_law_839 ?_
  refine V_callVi (As := [.int (xs (Int32.toNatClampNeg (x3 + 1))), .int (xs (Int32.toNatClampNeg (x3 + 2))), .int (xs (Int32.toNatClampNeg (x3 + 3)))]) (rest := [.int r219]) C (c_X11_hear (v_l X) G  _ _ _ _ h) 143 11 (by decide) (by decide) (by decide) rfl KV_X11_hear k_RL_92 rfl rfl rfl (Nat.le_of_ble_eq_true rfl) ⟨by decide, by decide⟩ dL_law_840 (fun r221 S220 h => ?_)
  refine V_icmp_eq (tgt := 1939) C dL_law_843 (by decide) (fun c => ?_) (fun c => ?_)
  · have h := h.1 c
    exact q_law_1939 C D hX hbl hbA hK18 _ _ h
  · have h := h.2 c
    refine V_iconst (v := 0) C dL_law_846 (by decide) ?_
    exact h.elim
set_option maxHeartbeats 16000000 in
set_option maxRecDepth 100000 in
theorem q_law_848 {X : vX} {G : vG}  {post : Unit} (C : v_Cx X G cL_law RL 4 room_1) (D : ∀ H locs ls, va_S (v_AA X) (v_s X).heap H locs → v_W X H locs (F0 (v_m X) 1946 ls [.int 1])) {bb L : Nat} {xs : Nat → Int32} (hX : va_X bb L xs (v_s X) (v_s X).heap) (hbl : bb < (v_s X).heap.size) (hbA : ¬ v_AA X bb)   {K18 : vSt → Int32 → Prop} (hK18 : ∀ S x3, K18 S x3 → VJ X G S 18 [(0, .ref bb), (1, .ref (G.1 0)), (2, .ref (G.1 143)), (3, .int x3)] []) : ∀ (S : vSt) (x3 : Int32), p_law_848 L xs K18 post S x3 → VJ X G S 848 [(0, .ref bb), (1, .ref (G.1 0)), (2, .ref (G.1 143)), (3, .int x3)] [] := by
  intro S x3 h
  refine V_aload_n C 1 dL_law_848 rfl rfl ?_
  refine V_aload_n C 0 dL_law_849 rfl rfl ?_
  refine V_iload_n C 3 dL_law_850 rfl rfl ?_
  refine V_iconst (v := 1) C dL_law_851 (by decide) ?_
  refine V_iadd C dL_law_852 ?_
  obtain ⟨hi, h⟩ := h
  refine V_sld C hX hbl hbA hi dL_law_853 ?_
  refine V_aload_n C 0 dL_law_854 rfl rfl ?_
  refine V_iload_n C 3 dL_law_855 rfl rfl ?_
  refine V_iconst (v := 2) C dL_law_856 (by decide) ?_
  refine V_iadd C dL_law_857 ?_
  obtain ⟨hi, h⟩ := h
  refine V_sld C hX hbl hbA hi dL_law_858 ?_
  refine V_aload_n C 0 dL_law_859 rfl rfl ?_
  refine V_iload_n C 3 dL_law_860 rfl rfl ?_
  refine V_iconst (v := 3) C dL_law_861 (by decide) ?_
  refine V_iadd C dL_law_862 ?_
  obtain ⟨hi, h⟩ := h
  refine V_sld C hX hbl hbA hi dL_law_863 ?_
  refine V_callVi (As := [.int (xs (Int32.toNatClampNeg (x3 + 1))), .int (xs (Int32.toNatClampNeg (x3 + 2))), .int (xs (Int32.toNatClampNeg (x3 + 3)))]) (rest := []) C (c_X10_drop (v_l X) G  _ _ _ _ h) 0 10 (by decide) (by decide) (by decide) rfl KV_X10_drop k_RL_93 rfl rfl rfl (Nat.le_of_ble_eq_true rfl) ⟨by decide, by decide⟩ dL_law_864 (fun r219 S218 h => ?_)
  refine V_aload_n C 2 dL_law_867 rfl rfl ?_
  refine V_aload_n C 0 dL_law_868 rfl rfl ?_
  refine V_iload_n C 3 dL_law_869 rfl rfl ?_
  refine V_iconst (v := 1) C dL_law_870 (by decide) ?_
  refine V_iadd C dL_law_871 ?_
  obtain ⟨hi, h⟩ := h
  refine V_sld C hX hbl hbA hi dL_law_872 ?_
  refine V_aload_n C 0 dL_law_873 rfl rfl ?_
  refine V_iload_n C 3 dL_law_874 rfl rfl ?_
  refine V_iconst (v := 2) C dL_law_875 (by decide) ?_
  refine V_iadd C dL_law_876 ?_
  obtain ⟨hi, h⟩ := h
  refine V_sld C hX hbl hbA hi dL_law_877 ?_
  refine V_aload_n C 0 dL_law_878 rfl rfl ?_
  refine V_iload_n C 3 dL_law_879 rfl rfl ?_
  refine V_iconst (v := 3) C dL_law_880 (by decide) ?_
  refine V_iadd C dL_law_881 ?_
  obtain ⟨hi, h⟩ := h
  refine V_sld C hX hbl hbA hi dL_law_882 ?_
  refine V_callVi (As := [.int (xs (Int32.toNatClampNeg (x3 + 1))), .int (xs (Int32.toNatClampNeg (x3 + 2))), .int (xs (Int32.toNatClampNeg (x3 + 3)))]) (rest := [.int r219]) C (c_X11_drop (v_l X) G  _ _ _ _ h) 143 11 (by decide) (by decide) (by decide) rfl KV_X11_drop k_RL_96 rfl rfl rfl (Nat.le_of_ble_eq_true rfl) ⟨by decide, by decide⟩ dL_law_883 (fun r221 S220 h => ?_)
  refine V_icmp_eq (tgt := 1939) C dL_law_886 (by decide) (fun c => ?_) (fun c => ?_)
  · have h := h.1 c
    exact q_law_1939 C D hX hbl hbA hK18 _ _ h
  · have h := h.2 c
    refine V_iconst (v := 0) C dL_law_889 (by decide) ?_
    exact h.elim
set_option maxHeartbeats 16000000 in
set_option maxRecDepth 100000 in
theorem q_law_891 {X : vX} {G : vG}  {post : Unit} (C : v_Cx X G cL_law RL 4 room_1) (D : ∀ H locs ls, va_S (v_AA X) (v_s X).heap H locs → v_W X H locs (F0 (v_m X) 1946 ls [.int 1])) {bb L : Nat} {xs : Nat → Int32} (hX : va_X bb L xs (v_s X) (v_s X).heap) (hbl : bb < (v_s X).heap.size) (hbA : ¬ v_AA X bb)   {K18 : vSt → Int32 → Prop} (hK18 : ∀ S x3, K18 S x3 → VJ X G S 18 [(0, .ref bb), (1, .ref (G.1 0)), (2, .ref (G.1 143)), (3, .int x3)] []) : ∀ (S : vSt) (x3 : Int32), p_law_891 L xs K18 post S x3 → VJ X G S 891 [(0, .ref bb), (1, .ref (G.1 0)), (2, .ref (G.1 143)), (3, .int x3)] [] := by
  intro S x3 h
  refine V_aload_n C 1 dL_law_891 rfl rfl ?_
  refine V_aload_n C 0 dL_law_892 rfl rfl ?_
  refine V_iload_n C 3 dL_law_893 rfl rfl ?_
  refine V_iconst (v := 1) C dL_law_894 (by decide) ?_
  refine V_iadd C dL_law_895 ?_
  obtain ⟨hi, h⟩ := h
  refine V_sld C hX hbl hbA hi dL_law_896 ?_
  refine V_aload_n C 0 dL_law_897 rfl rfl ?_
  refine V_iload_n C 3 dL_law_898 rfl rfl ?_
  refine V_iconst (v := 2) C dL_law_899 (by decide) ?_
  refine V_iadd C dL_law_900 ?_
  obtain ⟨hi, h⟩ := h
  refine V_sld C hX hbl hbA hi dL_law_901 ?_
  refine V_aload_n C 0 dL_law_902 rfl rfl ?_
  refine V_iload_n C 3 dL_law_903 rfl rfl ?_
  refine V_iconst (v := 3) C dL_law_904 (by decide) ?_
  refine V_iadd C dL_law_905 ?_
  obtain ⟨hi, h⟩ := h
  refine V_sld C hX hbl hbA hi dL_law_906 ?_
  refine V_callVi (As := [.int (xs (Int32.toNatClampNeg (x3 + 1))), .int (xs (Int32.toNatClampNeg (x3 + 2))), .int (xs (Int32.toNatClampNeg (x3 + 3)))]) (rest := []) C (c_X10_commit (v_l X) G  _ _ _ _ h) 0 10 (by decide) (by decide) (by decide) rfl KV_X10_commit k_RL_97 rfl rfl rfl (Nat.le_of_ble_eq_true rfl) ⟨by decide, by decide⟩ dL_law_907 (fun r219 S218 h => ?_)
  refine V_aload_n C 2 dL_law_910 rfl rfl ?_
  refine V_aload_n C 0 dL_law_911 rfl rfl ?_
  refine V_iload_n C 3 dL_law_912 rfl rfl ?_
  refine V_iconst (v := 1) C dL_law_913 (by decide) ?_
  refine V_iadd C dL_law_914 ?_
  obtain ⟨hi, h⟩ := h
  refine V_sld C hX hbl hbA hi dL_law_915 ?_
  refine V_aload_n C 0 dL_law_916 rfl rfl ?_
  refine V_iload_n C 3 dL_law_917 rfl rfl ?_
  refine V_iconst (v := 2) C dL_law_918 (by decide) ?_
  refine V_iadd C dL_law_919 ?_
  obtain ⟨hi, h⟩ := h
  refine V_sld C hX hbl hbA hi dL_law_920 ?_
  refine V_aload_n C 0 dL_law_921 rfl rfl ?_
  refine V_iload_n C 3 dL_law_922 rfl rfl ?_
  refine V_iconst (v := 3) C dL_law_923 (by decide) ?_
  refine V_iadd C dL_law_924 ?_
  obtain ⟨hi, h⟩ := h
  refine V_sld C hX hbl hbA hi dL_law_925 ?_
  refine V_callVi (As := [.int (xs (Int32.toNatClampNeg (x3 + 1))), .int (xs (Int32.toNatClampNeg (x3 + 2))), .int (xs (Int32.toNatClampNeg (x3 + 3)))]) (rest := [.int r219]) C (c_X11_commit (v_l X) G  _ _ _ _ h) 143 11 (by decide) (by decide) (by decide) rfl KV_X11_commit k_RL_100 rfl rfl rfl (Nat.le_of_ble_eq_true rfl) ⟨by decide, by decide⟩ dL_law_926 (fun r221 S220 h => ?_)
  refine V_icmp_eq (tgt := 1939) C dL_law_929 (by decide) (fun c => ?_) (fun c => ?_)
  · have h := h.1 c
    exact q_law_1939 C D hX hbl hbA hK18 _ _ h
  · have h := h.2 c
    refine V_iconst (v := 0) C dL_law_932 (by decide) ?_
    exact h.elim
set_option maxHeartbeats 16000000 in
set_option maxRecDepth 100000 in
theorem q_law_934 {X : vX} {G : vG}  {post : Unit} (C : v_Cx X G cL_law RL 4 room_1) (D : ∀ H locs ls, va_S (v_AA X) (v_s X).heap H locs → v_W X H locs (F0 (v_m X) 1946 ls [.int 1])) {bb L : Nat} {xs : Nat → Int32} (hX : va_X bb L xs (v_s X) (v_s X).heap) (hbl : bb < (v_s X).heap.size) (hbA : ¬ v_AA X bb)   {K18 : vSt → Int32 → Prop} (hK18 : ∀ S x3, K18 S x3 → VJ X G S 18 [(0, .ref bb), (1, .ref (G.1 0)), (2, .ref (G.1 143)), (3, .int x3)] []) : ∀ (S : vSt) (x3 : Int32), p_law_934 L xs K18 post S x3 → VJ X G S 934 [(0, .ref bb), (1, .ref (G.1 0)), (2, .ref (G.1 143)), (3, .int x3)] [] := by
  intro S x3 h
  refine V_aload_n C 1 dL_law_934 rfl rfl ?_
  refine V_aload_n C 0 dL_law_935 rfl rfl ?_
  refine V_iload_n C 3 dL_law_936 rfl rfl ?_
  refine V_iconst (v := 1) C dL_law_937 (by decide) ?_
  refine V_iadd C dL_law_938 ?_
  obtain ⟨hi, h⟩ := h
  refine V_sld C hX hbl hbA hi dL_law_939 ?_
  refine V_callVz (As := [.int (xs (Int32.toNatClampNeg (x3 + 1)))]) (rest := []) C (c_X10_reopen (v_l X) G  _ _ h) 0 10 (by decide) (by decide) (by decide) rfl KV_X10_reopen k_RL_101 rfl rfl rfl (Nat.le_of_ble_eq_true rfl) ⟨by decide, by decide⟩ dL_law_940 (fun r219 S218 h => ?_)
  refine V_aload_n C 2 dL_law_943 rfl rfl ?_
  refine V_aload_n C 0 dL_law_944 rfl rfl ?_
  refine V_iload_n C 3 dL_law_945 rfl rfl ?_
  refine V_iconst (v := 1) C dL_law_946 (by decide) ?_
  refine V_iadd C dL_law_947 ?_
  obtain ⟨hi, h⟩ := h
  refine V_sld C hX hbl hbA hi dL_law_948 ?_
  refine V_callVz (As := [.int (xs (Int32.toNatClampNeg (x3 + 1)))]) (rest := [.int (v_b r219)]) C (c_X11_reopen (v_l X) G  _ _ h) 143 11 (by decide) (by decide) (by decide) rfl KV_X11_reopen k_RL_105 rfl rfl rfl (Nat.le_of_ble_eq_true rfl) ⟨by decide, by decide⟩ dL_law_949 (fun r221 S220 h => ?_)
  refine V_icmp_eq (tgt := 1939) C dL_law_952 (by decide) (fun c => ?_) (fun c => ?_)
  · have h := h.1 c
    exact q_law_1939 C D hX hbl hbA hK18 _ _ h
  · have h := h.2 c
    refine V_iconst (v := 0) C dL_law_955 (by decide) ?_
    exact h.elim
set_option maxHeartbeats 16000000 in
set_option maxRecDepth 100000 in
theorem q_law_957 {X : vX} {G : vG}  {post : Unit} (C : v_Cx X G cL_law RL 4 room_1) (D : ∀ H locs ls, va_S (v_AA X) (v_s X).heap H locs → v_W X H locs (F0 (v_m X) 1946 ls [.int 1])) {bb L : Nat} {xs : Nat → Int32} (hX : va_X bb L xs (v_s X) (v_s X).heap) (hbl : bb < (v_s X).heap.size) (hbA : ¬ v_AA X bb)   {K18 : vSt → Int32 → Prop} (hK18 : ∀ S x3, K18 S x3 → VJ X G S 18 [(0, .ref bb), (1, .ref (G.1 0)), (2, .ref (G.1 143)), (3, .int x3)] []) : ∀ (S : vSt) (x3 : Int32), p_law_957 L xs K18 post S x3 → VJ X G S 957 [(0, .ref bb), (1, .ref (G.1 0)), (2, .ref (G.1 143)), (3, .int x3)] [] := by
  intro S x3 h
  refine V_aload_n C 1 dL_law_957 rfl rfl ?_
  refine V_aload_n C 0 dL_law_958 rfl rfl ?_
  refine V_iload_n C 3 dL_law_959 rfl rfl ?_
  refine V_iconst (v := 1) C dL_law_960 (by decide) ?_
  refine V_iadd C dL_law_961 ?_
  obtain ⟨hi, h⟩ := h
  refine V_sld C hX hbl hbA hi dL_law_962 ?_
  refine V_aload_n C 0 dL_law_963 rfl rfl ?_
  refine V_iload_n C 3 dL_law_964 rfl rfl ?_
  refine V_iconst (v := 2) C dL_law_965 (by decide) ?_
  refine V_iadd C dL_law_966 ?_
  obtain ⟨hi, h⟩ := h
  refine V_sld C hX hbl hbA hi dL_law_967 ?_
  refine V_callVz (As := [.int (xs (Int32.toNatClampNeg (x3 + 1))), .int (xs (Int32.toNatClampNeg (x3 + 2)))]) (rest := []) C (c_X10_train (v_l X) G  _ _ _ h) 0 10 (by decide) (by decide) (by decide) rfl KV_X10_train k_RL_106 rfl rfl rfl (Nat.le_of_ble_eq_true rfl) ⟨by decide, by decide⟩ dL_law_968 (fun r219 S218 h => ?_)
  refine V_aload_n C 2 dL_law_971 rfl rfl ?_
  refine V_aload_n C 0 dL_law_972 rfl rfl ?_
  refine V_iload_n C 3 dL_law_973 rfl rfl ?_
  refine V_iconst (v := 1) C dL_law_974 (by decide) ?_
  refine V_iadd C dL_law_975 ?_
  obtain ⟨hi, h⟩ := h
  refine V_sld C hX hbl hbA hi dL_law_976 ?_
  refine V_aload_n C 0 dL_law_977 rfl rfl ?_
  refine V_iload_n C 3 dL_law_978 rfl rfl ?_
  refine V_iconst (v := 2) C dL_law_979 (by decide) ?_
  refine V_iadd C dL_law_980 ?_
  obtain ⟨hi, h⟩ := h
  refine V_sld C hX hbl hbA hi dL_law_981 ?_
  refine V_callVz (As := [.int (xs (Int32.toNatClampNeg (x3 + 1))), .int (xs (Int32.toNatClampNeg (x3 + 2)))]) (rest := [.int (v_b r219)]) C (c_X11_train (v_l X) G  _ _ _ h) 143 11 (by decide) (by decide) (by decide) rfl KV_X11_train k_RL_110 rfl rfl rfl (Nat.le_of_ble_eq_true rfl) ⟨by decide, by decide⟩ dL_law_982 (fun r221 S220 h => ?_)
  refine V_icmp_eq (tgt := 1939) C dL_law_985 (by decide) (fun c => ?_) (fun c => ?_)
  · have h := h.1 c
    exact q_law_1939 C D hX hbl hbA hK18 _ _ h
  · have h := h.2 c
    refine V_iconst (v := 0) C dL_law_988 (by decide) ?_
    exact h.elim
set_option maxHeartbeats 16000000 in
set_option maxRecDepth 100000 in
theorem q_law_990 {X : vX} {G : vG}  {post : Unit} (C : v_Cx X G cL_law RL 4 room_1) (D : ∀ H locs ls, va_S (v_AA X) (v_s X).heap H locs → v_W X H locs (F0 (v_m X) 1946 ls [.int 1])) {bb L : Nat} {xs : Nat → Int32} (hX : va_X bb L xs (v_s X) (v_s X).heap) (hbl : bb < (v_s X).heap.size) (hbA : ¬ v_AA X bb)   {K18 : vSt → Int32 → Prop} (hK18 : ∀ S x3, K18 S x3 → VJ X G S 18 [(0, .ref bb), (1, .ref (G.1 0)), (2, .ref (G.1 143)), (3, .int x3)] []) : ∀ (S : vSt) (x3 : Int32), p_law_990 L xs K18 post S x3 → VJ X G S 990 [(0, .ref bb), (1, .ref (G.1 0)), (2, .ref (G.1 143)), (3, .int x3)] [] := by
  intro S x3 h
  refine V_aload_n C 1 dL_law_990 rfl rfl ?_
  refine V_aload_n C 0 dL_law_991 rfl rfl ?_
  refine V_iload_n C 3 dL_law_992 rfl rfl ?_
  refine V_iconst (v := 1) C dL_law_993 (by decide) ?_
  refine V_iadd C dL_law_994 ?_
  obtain ⟨hi, h⟩ := h
  refine V_sld C hX hbl hbA hi dL_law_995 ?_
  refine V_aload_n C 0 dL_law_996 rfl rfl ?_
  refine V_iload_n C 3 dL_law_997 rfl rfl ?_
  refine V_iconst (v := 2) C dL_law_998 (by decide) ?_
  refine V_iadd C dL_law_999 ?_
  obtain ⟨hi, h⟩ := h
  refine V_sld C hX hbl hbA hi dL_law_1000 ?_
  refine V_callVi (As := [.int (xs (Int32.toNatClampNeg (x3 + 1))), .int (xs (Int32.toNatClampNeg (x3 + 2)))]) (rest := []) C (c_X10_earn (v_l X) G  _ _ _ h) 0 10 (by decide) (by decide) (by decide) rfl KV_X10_earn k_RL_111 rfl rfl rfl (Nat.le_of_ble_eq_true rfl) ⟨by decide, by decide⟩ dL_law_1001 (fun r219 S218 h => ?_)
  refine V_aload_n C 2 dL_law_1004 rfl rfl ?_
  refine V_aload_n C 0 dL_law_1005 rfl rfl ?_
  refine V_iload_n C 3 dL_law_1006 rfl rfl ?_
  refine V_iconst (v := 1) C dL_law_1007 (by decide) ?_
  refine V_iadd C dL_law_1008 ?_
  obtain ⟨hi, h⟩ := h
  refine V_sld C hX hbl hbA hi dL_law_1009 ?_
  refine V_aload_n C 0 dL_law_1010 rfl rfl ?_
  refine V_iload_n C 3 dL_law_1011 rfl rfl ?_
  refine V_iconst (v := 2) C dL_law_1012 (by decide) ?_
  refine V_iadd C dL_law_1013 ?_
  obtain ⟨hi, h⟩ := h
  refine V_sld C hX hbl hbA hi dL_law_1014 ?_
  refine V_callVi (As := [.int (xs (Int32.toNatClampNeg (x3 + 1))), .int (xs (Int32.toNatClampNeg (x3 + 2)))]) (rest := [.int r219]) C (c_X11_earn (v_l X) G  _ _ _ h) 143 11 (by decide) (by decide) (by decide) rfl KV_X11_earn k_RL_114 rfl rfl rfl (Nat.le_of_ble_eq_true rfl) ⟨by decide, by decide⟩ dL_law_1015 (fun r221 S220 h => ?_)
  refine V_icmp_eq (tgt := 1939) C dL_law_1018 (by decide) (fun c => ?_) (fun c => ?_)
  · have h := h.1 c
    exact q_law_1939 C D hX hbl hbA hK18 _ _ h
  · have h := h.2 c
    refine V_iconst (v := 0) C dL_law_1021 (by decide) ?_
    exact h.elim
set_option maxHeartbeats 16000000 in
set_option maxRecDepth 100000 in
theorem q_law_1023 {X : vX} {G : vG}  {post : Unit} (C : v_Cx X G cL_law RL 4 room_1) (D : ∀ H locs ls, va_S (v_AA X) (v_s X).heap H locs → v_W X H locs (F0 (v_m X) 1946 ls [.int 1])) {bb L : Nat} {xs : Nat → Int32} (hX : va_X bb L xs (v_s X) (v_s X).heap) (hbl : bb < (v_s X).heap.size) (hbA : ¬ v_AA X bb)   {K18 : vSt → Int32 → Prop} (hK18 : ∀ S x3, K18 S x3 → VJ X G S 18 [(0, .ref bb), (1, .ref (G.1 0)), (2, .ref (G.1 143)), (3, .int x3)] []) : ∀ (S : vSt) (x3 : Int32), p_law_1023 L xs K18 post S x3 → VJ X G S 1023 [(0, .ref bb), (1, .ref (G.1 0)), (2, .ref (G.1 143)), (3, .int x3)] [] := by
  intro S x3 h
  refine V_aload_n C 1 dL_law_1023 rfl rfl ?_
  refine V_aload_n C 0 dL_law_1024 rfl rfl ?_
  refine V_iload_n C 3 dL_law_1025 rfl rfl ?_
  refine V_iconst (v := 1) C dL_law_1026 (by decide) ?_
  refine V_iadd C dL_law_1027 ?_
  obtain ⟨hi, h⟩ := h
  refine V_sld C hX hbl hbA hi dL_law_1028 ?_
  refine V_aload_n C 0 dL_law_1029 rfl rfl ?_
  refine V_iload_n C 3 dL_law_1030 rfl rfl ?_
  refine V_iconst (v := 2) C dL_law_1031 (by decide) ?_
  refine V_iadd C dL_law_1032 ?_
  obtain ⟨hi, h⟩ := h
  refine V_sld C hX hbl hbA hi dL_law_1033 ?_
  refine V_callVz (As := [.int (xs (Int32.toNatClampNeg (x3 + 1))), .int (xs (Int32.toNatClampNeg (x3 + 2)))]) (rest := []) C (c_X10_rule (v_l X) G  _ _ _ h) 0 10 (by decide) (by decide) (by decide) rfl KV_X10_rule k_RL_115 rfl rfl rfl (Nat.le_of_ble_eq_true rfl) ⟨by decide, by decide⟩ dL_law_1034 (fun r219 S218 h => ?_)
  refine V_aload_n C 2 dL_law_1037 rfl rfl ?_
  refine V_aload_n C 0 dL_law_1038 rfl rfl ?_
  refine V_iload_n C 3 dL_law_1039 rfl rfl ?_
  refine V_iconst (v := 1) C dL_law_1040 (by decide) ?_
  refine V_iadd C dL_law_1041 ?_
  obtain ⟨hi, h⟩ := h
  refine V_sld C hX hbl hbA hi dL_law_1042 ?_
  refine V_aload_n C 0 dL_law_1043 rfl rfl ?_
  refine V_iload_n C 3 dL_law_1044 rfl rfl ?_
  refine V_iconst (v := 2) C dL_law_1045 (by decide) ?_
  refine V_iadd C dL_law_1046 ?_
  obtain ⟨hi, h⟩ := h
  refine V_sld C hX hbl hbA hi dL_law_1047 ?_
  refine V_callVz (As := [.int (xs (Int32.toNatClampNeg (x3 + 1))), .int (xs (Int32.toNatClampNeg (x3 + 2)))]) (rest := [.int (v_b r219)]) C (c_X11_rule (v_l X) G  _ _ _ h) 143 11 (by decide) (by decide) (by decide) rfl KV_X11_rule k_RL_118 rfl rfl rfl (Nat.le_of_ble_eq_true rfl) ⟨by decide, by decide⟩ dL_law_1048 (fun r221 S220 h => ?_)
  refine V_icmp_eq (tgt := 1939) C dL_law_1051 (by decide) (fun c => ?_) (fun c => ?_)
  · have h := h.1 c
    exact q_law_1939 C D hX hbl hbA hK18 _ _ h
  · have h := h.2 c
    refine V_iconst (v := 0) C dL_law_1054 (by decide) ?_
    exact h.elim
set_option maxHeartbeats 16000000 in
set_option maxRecDepth 100000 in
theorem q_law_1056 {X : vX} {G : vG}  {post : Unit} (C : v_Cx X G cL_law RL 4 room_1) (D : ∀ H locs ls, va_S (v_AA X) (v_s X).heap H locs → v_W X H locs (F0 (v_m X) 1946 ls [.int 1])) {bb L : Nat} {xs : Nat → Int32} (hX : va_X bb L xs (v_s X) (v_s X).heap) (hbl : bb < (v_s X).heap.size) (hbA : ¬ v_AA X bb)   {K18 : vSt → Int32 → Prop} (hK18 : ∀ S x3, K18 S x3 → VJ X G S 18 [(0, .ref bb), (1, .ref (G.1 0)), (2, .ref (G.1 143)), (3, .int x3)] []) : ∀ (S : vSt) (x3 : Int32), p_law_1056 L xs K18 post S x3 → VJ X G S 1056 [(0, .ref bb), (1, .ref (G.1 0)), (2, .ref (G.1 143)), (3, .int x3)] [] := by
  intro S x3 h
  refine V_aload_n C 1 dL_law_1056 rfl rfl ?_
  refine V_aload_n C 0 dL_law_1057 rfl rfl ?_
  refine V_iload_n C 3 dL_law_1058 rfl rfl ?_
  refine V_iconst (v := 1) C dL_law_1059 (by decide) ?_
  refine V_iadd C dL_law_1060 ?_
  obtain ⟨hi, h⟩ := h
  refine V_sld C hX hbl hbA hi dL_law_1061 ?_
  refine V_aload_n C 0 dL_law_1062 rfl rfl ?_
  refine V_iload_n C 3 dL_law_1063 rfl rfl ?_
  refine V_iconst (v := 2) C dL_law_1064 (by decide) ?_
  refine V_iadd C dL_law_1065 ?_
  obtain ⟨hi, h⟩ := h
  refine V_sld C hX hbl hbA hi dL_law_1066 ?_
  refine V_callVi (As := [.int (xs (Int32.toNatClampNeg (x3 + 1))), .int (xs (Int32.toNatClampNeg (x3 + 2)))]) (rest := []) C (c_X10_can (v_l X) G  _ _ _ h) 0 10 (by decide) (by decide) (by decide) rfl KV_X10_can k_RL_119 rfl rfl rfl (Nat.le_of_ble_eq_true rfl) ⟨by decide, by decide⟩ dL_law_1067 (fun r219 S218 h => ?_)
  refine V_aload_n C 2 dL_law_1070 rfl rfl ?_
  refine V_aload_n C 0 dL_law_1071 rfl rfl ?_
  refine V_iload_n C 3 dL_law_1072 rfl rfl ?_
  refine V_iconst (v := 1) C dL_law_1073 (by decide) ?_
  refine V_iadd C dL_law_1074 ?_
  obtain ⟨hi, h⟩ := h
  refine V_sld C hX hbl hbA hi dL_law_1075 ?_
  refine V_aload_n C 0 dL_law_1076 rfl rfl ?_
  refine V_iload_n C 3 dL_law_1077 rfl rfl ?_
  refine V_iconst (v := 2) C dL_law_1078 (by decide) ?_
  refine V_iadd C dL_law_1079 ?_
  obtain ⟨hi, h⟩ := h
  refine V_sld C hX hbl hbA hi dL_law_1080 ?_
  refine V_callVi (As := [.int (xs (Int32.toNatClampNeg (x3 + 1))), .int (xs (Int32.toNatClampNeg (x3 + 2)))]) (rest := [.int r219]) C (c_X11_can (v_l X) G  _ _ _ h) 143 11 (by decide) (by decide) (by decide) rfl KV_X11_can k_RL_122 rfl rfl rfl (Nat.le_of_ble_eq_true rfl) ⟨by decide, by decide⟩ dL_law_1081 (fun r221 S220 h => ?_)
  refine V_icmp_eq (tgt := 1939) C dL_law_1084 (by decide) (fun c => ?_) (fun c => ?_)
  · have h := h.1 c
    exact q_law_1939 C D hX hbl hbA hK18 _ _ h
  · have h := h.2 c
    refine V_iconst (v := 0) C dL_law_1087 (by decide) ?_
    exact h.elim
set_option maxHeartbeats 16000000 in
set_option maxRecDepth 100000 in
theorem q_law_1089 {X : vX} {G : vG}  {post : Unit} (C : v_Cx X G cL_law RL 4 room_1) (D : ∀ H locs ls, va_S (v_AA X) (v_s X).heap H locs → v_W X H locs (F0 (v_m X) 1946 ls [.int 1])) {bb L : Nat} {xs : Nat → Int32} (hX : va_X bb L xs (v_s X) (v_s X).heap) (hbl : bb < (v_s X).heap.size) (hbA : ¬ v_AA X bb)   {K18 : vSt → Int32 → Prop} (hK18 : ∀ S x3, K18 S x3 → VJ X G S 18 [(0, .ref bb), (1, .ref (G.1 0)), (2, .ref (G.1 143)), (3, .int x3)] []) : ∀ (S : vSt) (x3 : Int32), p_law_1089 L xs K18 post S x3 → VJ X G S 1089 [(0, .ref bb), (1, .ref (G.1 0)), (2, .ref (G.1 143)), (3, .int x3)] [] := by
  intro S x3 h
  refine V_aload_n C 1 dL_law_1089 rfl rfl ?_
  refine V_aload_n C 0 dL_law_1090 rfl rfl ?_
  refine V_iload_n C 3 dL_law_1091 rfl rfl ?_
  refine V_iconst (v := 1) C dL_law_1092 (by decide) ?_
  refine V_iadd C dL_law_1093 ?_
  obtain ⟨hi, h⟩ := h
  refine V_sld C hX hbl hbA hi dL_law_1094 ?_
  refine V_aload_n C 0 dL_law_1095 rfl rfl ?_
  refine V_iload_n C 3 dL_law_1096 rfl rfl ?_
  refine V_iconst (v := 2) C dL_law_1097 (by decide) ?_
  refine V_iadd C dL_law_1098 ?_
  obtain ⟨hi, h⟩ := h
  refine V_sld C hX hbl hbA hi dL_law_1099 ?_
  refine V_callVi (As := [.int (xs (Int32.toNatClampNeg (x3 + 1))), .int (xs (Int32.toNatClampNeg (x3 + 2)))]) (rest := []) C (c_X10_chance (v_l X) G  _ _ _ h) 0 10 (by decide) (by decide) (by decide) rfl KV_X10_chance k_RL_123 rfl rfl rfl (Nat.le_of_ble_eq_true rfl) ⟨by decide, by decide⟩ dL_law_1100 (fun r219 S218 h => ?_)
  refine V_aload_n C 2 dL_law_1103 rfl rfl ?_
  refine V_aload_n C 0 dL_law_1104 rfl rfl ?_
  refine V_iload_n C 3 dL_law_1105 rfl rfl ?_
  refine V_iconst (v := 1) C dL_law_1106 (by decide) ?_
  refine V_iadd C dL_law_1107 ?_
  obtain ⟨hi, h⟩ := h
  refine V_sld C hX hbl hbA hi dL_law_1108 ?_
  refine V_aload_n C 0 dL_law_1109 rfl rfl ?_
  refine V_iload_n C 3 dL_law_1110 rfl rfl ?_
  refine V_iconst (v := 2) C dL_law_1111 (by decide) ?_
  refine V_iadd C dL_law_1112 ?_
  obtain ⟨hi, h⟩ := h
  refine V_sld C hX hbl hbA hi dL_law_1113 ?_
  refine V_callVi (As := [.int (xs (Int32.toNatClampNeg (x3 + 1))), .int (xs (Int32.toNatClampNeg (x3 + 2)))]) (rest := [.int r219]) C (c_X11_chance (v_l X) G  _ _ _ h) 143 11 (by decide) (by decide) (by decide) rfl KV_X11_chance k_RL_126 rfl rfl rfl (Nat.le_of_ble_eq_true rfl) ⟨by decide, by decide⟩ dL_law_1114 (fun r221 S220 h => ?_)
  refine V_icmp_eq (tgt := 1939) C dL_law_1117 (by decide) (fun c => ?_) (fun c => ?_)
  · have h := h.1 c
    exact q_law_1939 C D hX hbl hbA hK18 _ _ h
  · have h := h.2 c
    refine V_iconst (v := 0) C dL_law_1120 (by decide) ?_
    exact h.elim
set_option maxHeartbeats 16000000 in
set_option maxRecDepth 100000 in
theorem q_law_1122 {X : vX} {G : vG}  {post : Unit} (C : v_Cx X G cL_law RL 4 room_1) (D : ∀ H locs ls, va_S (v_AA X) (v_s X).heap H locs → v_W X H locs (F0 (v_m X) 1946 ls [.int 1])) {bb L : Nat} {xs : Nat → Int32} (hX : va_X bb L xs (v_s X) (v_s X).heap) (hbl : bb < (v_s X).heap.size) (hbA : ¬ v_AA X bb)   {K18 : vSt → Int32 → Prop} (hK18 : ∀ S x3, K18 S x3 → VJ X G S 18 [(0, .ref bb), (1, .ref (G.1 0)), (2, .ref (G.1 143)), (3, .int x3)] []) : ∀ (S : vSt) (x3 : Int32), p_law_1122 L xs K18 post S x3 → VJ X G S 1122 [(0, .ref bb), (1, .ref (G.1 0)), (2, .ref (G.1 143)), (3, .int x3)] [] := by
  intro S x3 h
  refine V_aload_n C 1 dL_law_1122 rfl rfl ?_
  refine V_aload_n C 0 dL_law_1123 rfl rfl ?_
  refine V_iload_n C 3 dL_law_1124 rfl rfl ?_
  refine V_iconst (v := 1) C dL_law_1125 (by decide) ?_
  refine V_iadd C dL_law_1126 ?_
  obtain ⟨hi, h⟩ := h
  refine V_sld C hX hbl hbA hi dL_law_1127 ?_
  refine V_aload_n C 0 dL_law_1128 rfl rfl ?_
  refine V_iload_n C 3 dL_law_1129 rfl rfl ?_
  refine V_iconst (v := 2) C dL_law_1130 (by decide) ?_
  refine V_iadd C dL_law_1131 ?_
  obtain ⟨hi, h⟩ := h
  refine V_sld C hX hbl hbA hi dL_law_1132 ?_
  refine V_aload_n C 0 dL_law_1133 rfl rfl ?_
  refine V_iload_n C 3 dL_law_1134 rfl rfl ?_
  refine V_iconst (v := 3) C dL_law_1135 (by decide) ?_
  refine V_iadd C dL_law_1136 ?_
  obtain ⟨hi, h⟩ := h
  refine V_sld C hX hbl hbA hi dL_law_1137 ?_
  refine V_callVz (As := [.int (xs (Int32.toNatClampNeg (x3 + 1))), .int (xs (Int32.toNatClampNeg (x3 + 2))), .int (xs (Int32.toNatClampNeg (x3 + 3)))]) (rest := []) C (c_X10_votes (v_l X) G  _ _ _ _ h) 0 10 (by decide) (by decide) (by decide) rfl KV_X10_votes k_RL_127 rfl rfl rfl (Nat.le_of_ble_eq_true rfl) ⟨by decide, by decide⟩ dL_law_1138 (fun r219 S218 h => ?_)
  refine V_aload_n C 2 dL_law_1141 rfl rfl ?_
  refine V_aload_n C 0 dL_law_1142 rfl rfl ?_
  refine V_iload_n C 3 dL_law_1143 rfl rfl ?_
  refine V_iconst (v := 1) C dL_law_1144 (by decide) ?_
  refine V_iadd C dL_law_1145 ?_
  obtain ⟨hi, h⟩ := h
  refine V_sld C hX hbl hbA hi dL_law_1146 ?_
  refine V_aload_n C 0 dL_law_1147 rfl rfl ?_
  refine V_iload_n C 3 dL_law_1148 rfl rfl ?_
  refine V_iconst (v := 2) C dL_law_1149 (by decide) ?_
  refine V_iadd C dL_law_1150 ?_
  obtain ⟨hi, h⟩ := h
  refine V_sld C hX hbl hbA hi dL_law_1151 ?_
  refine V_aload_n C 0 dL_law_1152 rfl rfl ?_
  refine V_iload_n C 3 dL_law_1153 rfl rfl ?_
  refine V_iconst (v := 3) C dL_law_1154 (by decide) ?_
  refine V_iadd C dL_law_1155 ?_
  obtain ⟨hi, h⟩ := h
  refine V_sld C hX hbl hbA hi dL_law_1156 ?_
  refine V_callVz (As := [.int (xs (Int32.toNatClampNeg (x3 + 1))), .int (xs (Int32.toNatClampNeg (x3 + 2))), .int (xs (Int32.toNatClampNeg (x3 + 3)))]) (rest := [.int (v_b r219)]) C (c_X11_votes (v_l X) G  _ _ _ _ h) 143 11 (by decide) (by decide) (by decide) rfl KV_X11_votes k_RL_130 rfl rfl rfl (Nat.le_of_ble_eq_true rfl) ⟨by decide, by decide⟩ dL_law_1157 (fun r221 S220 h => ?_)
  refine V_icmp_eq (tgt := 1939) C dL_law_1160 (by decide) (fun c => ?_) (fun c => ?_)
  · have h := h.1 c
    exact q_law_1939 C D hX hbl hbA hK18 _ _ h
  · have h := h.2 c
    refine V_iconst (v := 0) C dL_law_1163 (by decide) ?_
    exact h.elim
set_option maxHeartbeats 16000000 in
set_option maxRecDepth 100000 in
theorem q_law_1165 {X : vX} {G : vG}  {post : Unit} (C : v_Cx X G cL_law RL 4 room_1) (D : ∀ H locs ls, va_S (v_AA X) (v_s X).heap H locs → v_W X H locs (F0 (v_m X) 1946 ls [.int 1])) {bb L : Nat} {xs : Nat → Int32} (hX : va_X bb L xs (v_s X) (v_s X).heap) (hbl : bb < (v_s X).heap.size) (hbA : ¬ v_AA X bb)   {K18 : vSt → Int32 → Prop} (hK18 : ∀ S x3, K18 S x3 → VJ X G S 18 [(0, .ref bb), (1, .ref (G.1 0)), (2, .ref (G.1 143)), (3, .int x3)] []) : ∀ (S : vSt) (x3 : Int32), p_law_1165 L xs K18 post S x3 → VJ X G S 1165 [(0, .ref bb), (1, .ref (G.1 0)), (2, .ref (G.1 143)), (3, .int x3)] [] := by
  intro S x3 h
  refine V_aload_n C 1 dL_law_1165 rfl rfl ?_
  refine V_aload_n C 0 dL_law_1166 rfl rfl ?_
  refine V_iload_n C 3 dL_law_1167 rfl rfl ?_
  refine V_iconst (v := 1) C dL_law_1168 (by decide) ?_
  refine V_iadd C dL_law_1169 ?_
  obtain ⟨hi, h⟩ := h
  refine V_sld C hX hbl hbA hi dL_law_1170 ?_
  refine V_aload_n C 0 dL_law_1171 rfl rfl ?_
  refine V_iload_n C 3 dL_law_1172 rfl rfl ?_
  refine V_iconst (v := 2) C dL_law_1173 (by decide) ?_
  refine V_iadd C dL_law_1174 ?_
  obtain ⟨hi, h⟩ := h
  refine V_sld C hX hbl hbA hi dL_law_1175 ?_
  refine V_callVz (As := [.int (xs (Int32.toNatClampNeg (x3 + 1))), .int (xs (Int32.toNatClampNeg (x3 + 2)))]) (rest := []) C (c_X10_wins (v_l X) G  _ _ _ h) 0 10 (by decide) (by decide) (by decide) rfl KV_X10_wins k_RL_131 rfl rfl rfl (Nat.le_of_ble_eq_true rfl) ⟨by decide, by decide⟩ dL_law_1176 (fun r219 S218 h => ?_)
  refine V_aload_n C 2 dL_law_1179 rfl rfl ?_
  refine V_aload_n C 0 dL_law_1180 rfl rfl ?_
  refine V_iload_n C 3 dL_law_1181 rfl rfl ?_
  refine V_iconst (v := 1) C dL_law_1182 (by decide) ?_
  refine V_iadd C dL_law_1183 ?_
  obtain ⟨hi, h⟩ := h
  refine V_sld C hX hbl hbA hi dL_law_1184 ?_
  refine V_aload_n C 0 dL_law_1185 rfl rfl ?_
  refine V_iload_n C 3 dL_law_1186 rfl rfl ?_
  refine V_iconst (v := 2) C dL_law_1187 (by decide) ?_
  refine V_iadd C dL_law_1188 ?_
  obtain ⟨hi, h⟩ := h
  refine V_sld C hX hbl hbA hi dL_law_1189 ?_
  refine V_callVz (As := [.int (xs (Int32.toNatClampNeg (x3 + 1))), .int (xs (Int32.toNatClampNeg (x3 + 2)))]) (rest := [.int (v_b r219)]) C (c_X11_wins (v_l X) G  _ _ _ h) 143 11 (by decide) (by decide) (by decide) rfl KV_X11_wins k_RL_134 rfl rfl rfl (Nat.le_of_ble_eq_true rfl) ⟨by decide, by decide⟩ dL_law_1190 (fun r221 S220 h => ?_)
  refine V_icmp_eq (tgt := 1939) C dL_law_1193 (by decide) (fun c => ?_) (fun c => ?_)
  · have h := h.1 c
    exact q_law_1939 C D hX hbl hbA hK18 _ _ h
  · have h := h.2 c
    refine V_iconst (v := 0) C dL_law_1196 (by decide) ?_
    exact h.elim
set_option maxHeartbeats 16000000 in
set_option maxRecDepth 100000 in
theorem q_law_1198 {X : vX} {G : vG}  {post : Unit} (C : v_Cx X G cL_law RL 4 room_1) (D : ∀ H locs ls, va_S (v_AA X) (v_s X).heap H locs → v_W X H locs (F0 (v_m X) 1946 ls [.int 1])) {bb L : Nat} {xs : Nat → Int32} (hX : va_X bb L xs (v_s X) (v_s X).heap) (hbl : bb < (v_s X).heap.size) (hbA : ¬ v_AA X bb)   {K18 : vSt → Int32 → Prop} (hK18 : ∀ S x3, K18 S x3 → VJ X G S 18 [(0, .ref bb), (1, .ref (G.1 0)), (2, .ref (G.1 143)), (3, .int x3)] []) : ∀ (S : vSt) (x3 : Int32), p_law_1198 L xs K18 post S x3 → VJ X G S 1198 [(0, .ref bb), (1, .ref (G.1 0)), (2, .ref (G.1 143)), (3, .int x3)] [] := by
  intro S x3 h
  refine V_aload_n C 1 dL_law_1198 rfl rfl ?_
  refine V_aload_n C 0 dL_law_1199 rfl rfl ?_
  refine V_iload_n C 3 dL_law_1200 rfl rfl ?_
  refine V_iconst (v := 1) C dL_law_1201 (by decide) ?_
  refine V_iadd C dL_law_1202 ?_
  obtain ⟨hi, h⟩ := h
  refine V_sld C hX hbl hbA hi dL_law_1203 ?_
  refine V_aload_n C 0 dL_law_1204 rfl rfl ?_
  refine V_iload_n C 3 dL_law_1205 rfl rfl ?_
  refine V_iconst (v := 2) C dL_law_1206 (by decide) ?_
  refine V_iadd C dL_law_1207 ?_
  obtain ⟨hi, h⟩ := h
  refine V_sld C hX hbl hbA hi dL_law_1208 ?_
  refine V_callVz (As := [.int (xs (Int32.toNatClampNeg (x3 + 1))), .int (xs (Int32.toNatClampNeg (x3 + 2)))]) (rest := []) C (c_X10_owes (v_l X) G  _ _ _ h) 0 10 (by decide) (by decide) (by decide) rfl KV_X10_owes k_RL_135 rfl rfl rfl (Nat.le_of_ble_eq_true rfl) ⟨by decide, by decide⟩ dL_law_1209 (fun r219 S218 h => ?_)
  refine V_aload_n C 2 dL_law_1212 rfl rfl ?_
  refine V_aload_n C 0 dL_law_1213 rfl rfl ?_
  refine V_iload_n C 3 dL_law_1214 rfl rfl ?_
  refine V_iconst (v := 1) C dL_law_1215 (by decide) ?_
  refine V_iadd C dL_law_1216 ?_
  obtain ⟨hi, h⟩ := h
  refine V_sld C hX hbl hbA hi dL_law_1217 ?_
  refine V_aload_n C 0 dL_law_1218 rfl rfl ?_
  refine V_iload_n C 3 dL_law_1219 rfl rfl ?_
  refine V_iconst (v := 2) C dL_law_1220 (by decide) ?_
  refine V_iadd C dL_law_1221 ?_
  obtain ⟨hi, h⟩ := h
  refine V_sld C hX hbl hbA hi dL_law_1222 ?_
  refine V_callVz (As := [.int (xs (Int32.toNatClampNeg (x3 + 1))), .int (xs (Int32.toNatClampNeg (x3 + 2)))]) (rest := [.int (v_b r219)]) C (c_X11_owes (v_l X) G  _ _ _ h) 143 11 (by decide) (by decide) (by decide) rfl KV_X11_owes k_RL_138 rfl rfl rfl (Nat.le_of_ble_eq_true rfl) ⟨by decide, by decide⟩ dL_law_1223 (fun r221 S220 h => ?_)
  refine V_icmp_eq (tgt := 1939) C dL_law_1226 (by decide) (fun c => ?_) (fun c => ?_)
  · have h := h.1 c
    exact q_law_1939 C D hX hbl hbA hK18 _ _ h
  · have h := h.2 c
    refine V_iconst (v := 0) C dL_law_1229 (by decide) ?_
    exact h.elim
set_option maxHeartbeats 16000000 in
set_option maxRecDepth 100000 in
theorem q_law_1231 {X : vX} {G : vG}  {post : Unit} (C : v_Cx X G cL_law RL 4 room_1) (D : ∀ H locs ls, va_S (v_AA X) (v_s X).heap H locs → v_W X H locs (F0 (v_m X) 1946 ls [.int 1])) {bb L : Nat} {xs : Nat → Int32} (hX : va_X bb L xs (v_s X) (v_s X).heap) (hbl : bb < (v_s X).heap.size) (hbA : ¬ v_AA X bb)   {K18 : vSt → Int32 → Prop} (hK18 : ∀ S x3, K18 S x3 → VJ X G S 18 [(0, .ref bb), (1, .ref (G.1 0)), (2, .ref (G.1 143)), (3, .int x3)] []) : ∀ (S : vSt) (x3 : Int32), p_law_1231 L xs K18 post S x3 → VJ X G S 1231 [(0, .ref bb), (1, .ref (G.1 0)), (2, .ref (G.1 143)), (3, .int x3)] [] := by
  intro S x3 h
  refine V_aload_n C 1 dL_law_1231 rfl rfl ?_
  refine V_aload_n C 0 dL_law_1232 rfl rfl ?_
  refine V_iload_n C 3 dL_law_1233 rfl rfl ?_
  refine V_iconst (v := 1) C dL_law_1234 (by decide) ?_
  refine V_iadd C dL_law_1235 ?_
  obtain ⟨hi, h⟩ := h
  refine V_sld C hX hbl hbA hi dL_law_1236 ?_
  refine V_aload_n C 0 dL_law_1237 rfl rfl ?_
  refine V_iload_n C 3 dL_law_1238 rfl rfl ?_
  refine V_iconst (v := 2) C dL_law_1239 (by decide) ?_
  refine V_iadd C dL_law_1240 ?_
  obtain ⟨hi, h⟩ := h
  refine V_sld C hX hbl hbA hi dL_law_1241 ?_
  refine V_callVz (As := [.int (xs (Int32.toNatClampNeg (x3 + 1))), .int (xs (Int32.toNatClampNeg (x3 + 2)))]) (rest := []) C (c_X10_gain (v_l X) G  _ _ _ h) 0 10 (by decide) (by decide) (by decide) rfl KV_X10_gain k_RL_139 rfl rfl rfl (Nat.le_of_ble_eq_true rfl) ⟨by decide, by decide⟩ dL_law_1242 (fun r219 S218 h => ?_)
  refine V_aload_n C 2 dL_law_1245 rfl rfl ?_
  refine V_aload_n C 0 dL_law_1246 rfl rfl ?_
  refine V_iload_n C 3 dL_law_1247 rfl rfl ?_
  refine V_iconst (v := 1) C dL_law_1248 (by decide) ?_
  refine V_iadd C dL_law_1249 ?_
  obtain ⟨hi, h⟩ := h
  refine V_sld C hX hbl hbA hi dL_law_1250 ?_
  refine V_aload_n C 0 dL_law_1251 rfl rfl ?_
  refine V_iload_n C 3 dL_law_1252 rfl rfl ?_
  refine V_iconst (v := 2) C dL_law_1253 (by decide) ?_
  refine V_iadd C dL_law_1254 ?_
  obtain ⟨hi, h⟩ := h
  refine V_sld C hX hbl hbA hi dL_law_1255 ?_
  refine V_callVz (As := [.int (xs (Int32.toNatClampNeg (x3 + 1))), .int (xs (Int32.toNatClampNeg (x3 + 2)))]) (rest := [.int (v_b r219)]) C (c_X11_gain (v_l X) G  _ _ _ h) 143 11 (by decide) (by decide) (by decide) rfl KV_X11_gain k_RL_142 rfl rfl rfl (Nat.le_of_ble_eq_true rfl) ⟨by decide, by decide⟩ dL_law_1256 (fun r221 S220 h => ?_)
  refine V_icmp_eq (tgt := 1939) C dL_law_1259 (by decide) (fun c => ?_) (fun c => ?_)
  · have h := h.1 c
    exact q_law_1939 C D hX hbl hbA hK18 _ _ h
  · have h := h.2 c
    refine V_iconst (v := 0) C dL_law_1262 (by decide) ?_
    exact h.elim
set_option maxHeartbeats 16000000 in
set_option maxRecDepth 100000 in
theorem q_law_1264 {X : vX} {G : vG}  {post : Unit} (C : v_Cx X G cL_law RL 4 room_1) (D : ∀ H locs ls, va_S (v_AA X) (v_s X).heap H locs → v_W X H locs (F0 (v_m X) 1946 ls [.int 1])) {bb L : Nat} {xs : Nat → Int32} (hX : va_X bb L xs (v_s X) (v_s X).heap) (hbl : bb < (v_s X).heap.size) (hbA : ¬ v_AA X bb)   {K18 : vSt → Int32 → Prop} (hK18 : ∀ S x3, K18 S x3 → VJ X G S 18 [(0, .ref bb), (1, .ref (G.1 0)), (2, .ref (G.1 143)), (3, .int x3)] []) : ∀ (S : vSt) (x3 : Int32), p_law_1264 L xs K18 post S x3 → VJ X G S 1264 [(0, .ref bb), (1, .ref (G.1 0)), (2, .ref (G.1 143)), (3, .int x3)] [] := by
  intro S x3 h
  refine V_aload_n C 1 dL_law_1264 rfl rfl ?_
  refine V_aload_n C 0 dL_law_1265 rfl rfl ?_
  refine V_iload_n C 3 dL_law_1266 rfl rfl ?_
  refine V_iconst (v := 1) C dL_law_1267 (by decide) ?_
  refine V_iadd C dL_law_1268 ?_
  obtain ⟨hi, h⟩ := h
  refine V_sld C hX hbl hbA hi dL_law_1269 ?_
  refine V_aload_n C 0 dL_law_1270 rfl rfl ?_
  refine V_iload_n C 3 dL_law_1271 rfl rfl ?_
  refine V_iconst (v := 2) C dL_law_1272 (by decide) ?_
  refine V_iadd C dL_law_1273 ?_
  obtain ⟨hi, h⟩ := h
  refine V_sld C hX hbl hbA hi dL_law_1274 ?_
  refine V_callVz (As := [.int (xs (Int32.toNatClampNeg (x3 + 1))), .int (xs (Int32.toNatClampNeg (x3 + 2)))]) (rest := []) C (c_X10_loss (v_l X) G  _ _ _ h) 0 10 (by decide) (by decide) (by decide) rfl KV_X10_loss k_RL_143 rfl rfl rfl (Nat.le_of_ble_eq_true rfl) ⟨by decide, by decide⟩ dL_law_1275 (fun r219 S218 h => ?_)
  refine V_aload_n C 2 dL_law_1278 rfl rfl ?_
  refine V_aload_n C 0 dL_law_1279 rfl rfl ?_
  refine V_iload_n C 3 dL_law_1280 rfl rfl ?_
  refine V_iconst (v := 1) C dL_law_1281 (by decide) ?_
  refine V_iadd C dL_law_1282 ?_
  obtain ⟨hi, h⟩ := h
  refine V_sld C hX hbl hbA hi dL_law_1283 ?_
  refine V_aload_n C 0 dL_law_1284 rfl rfl ?_
  refine V_iload_n C 3 dL_law_1285 rfl rfl ?_
  refine V_iconst (v := 2) C dL_law_1286 (by decide) ?_
  refine V_iadd C dL_law_1287 ?_
  obtain ⟨hi, h⟩ := h
  refine V_sld C hX hbl hbA hi dL_law_1288 ?_
  refine V_callVz (As := [.int (xs (Int32.toNatClampNeg (x3 + 1))), .int (xs (Int32.toNatClampNeg (x3 + 2)))]) (rest := [.int (v_b r219)]) C (c_X11_loss (v_l X) G  _ _ _ h) 143 11 (by decide) (by decide) (by decide) rfl KV_X11_loss k_RL_146 rfl rfl rfl (Nat.le_of_ble_eq_true rfl) ⟨by decide, by decide⟩ dL_law_1289 (fun r221 S220 h => ?_)
  refine V_icmp_eq (tgt := 1939) C dL_law_1292 (by decide) (fun c => ?_) (fun c => ?_)
  · have h := h.1 c
    exact q_law_1939 C D hX hbl hbA hK18 _ _ h
  · have h := h.2 c
    refine V_iconst (v := 0) C dL_law_1295 (by decide) ?_
    exact h.elim
set_option maxHeartbeats 16000000 in
set_option maxRecDepth 100000 in
theorem q_law_1297 {X : vX} {G : vG}  {post : Unit} (C : v_Cx X G cL_law RL 4 room_1) (D : ∀ H locs ls, va_S (v_AA X) (v_s X).heap H locs → v_W X H locs (F0 (v_m X) 1946 ls [.int 1])) {bb L : Nat} {xs : Nat → Int32} (hX : va_X bb L xs (v_s X) (v_s X).heap) (hbl : bb < (v_s X).heap.size) (hbA : ¬ v_AA X bb)   {K18 : vSt → Int32 → Prop} (hK18 : ∀ S x3, K18 S x3 → VJ X G S 18 [(0, .ref bb), (1, .ref (G.1 0)), (2, .ref (G.1 143)), (3, .int x3)] []) : ∀ (S : vSt) (x3 : Int32), p_law_1297 L xs K18 post S x3 → VJ X G S 1297 [(0, .ref bb), (1, .ref (G.1 0)), (2, .ref (G.1 143)), (3, .int x3)] [] := by
  intro S x3 h
  refine V_aload_n C 1 dL_law_1297 rfl rfl ?_
  refine V_aload_n C 0 dL_law_1298 rfl rfl ?_
  refine V_iload_n C 3 dL_law_1299 rfl rfl ?_
  refine V_iconst (v := 1) C dL_law_1300 (by decide) ?_
  refine V_iadd C dL_law_1301 ?_
  obtain ⟨hi, h⟩ := h
  refine V_sld C hX hbl hbA hi dL_law_1302 ?_
  refine V_callVi (As := [.int (xs (Int32.toNatClampNeg (x3 + 1)))]) (rest := []) C (c_X10_best (v_l X) G  _ _ h) 0 10 (by decide) (by decide) (by decide) rfl KV_X10_best k_RL_147 rfl rfl rfl (Nat.le_of_ble_eq_true rfl) ⟨by decide, by decide⟩ dL_law_1303 (fun r219 S218 h => ?_)
  refine V_aload_n C 2 dL_law_1306 rfl rfl ?_
  refine V_aload_n C 0 dL_law_1307 rfl rfl ?_
  refine V_iload_n C 3 dL_law_1308 rfl rfl ?_
  refine V_iconst (v := 1) C dL_law_1309 (by decide) ?_
  refine V_iadd C dL_law_1310 ?_
  obtain ⟨hi, h⟩ := h
  refine V_sld C hX hbl hbA hi dL_law_1311 ?_
  refine V_callVi (As := [.int (xs (Int32.toNatClampNeg (x3 + 1)))]) (rest := [.int r219]) C (c_X11_best (v_l X) G  _ _ h) 143 11 (by decide) (by decide) (by decide) rfl KV_X11_best k_RL_150 rfl rfl rfl (Nat.le_of_ble_eq_true rfl) ⟨by decide, by decide⟩ dL_law_1312 (fun r221 S220 h => ?_)
  refine V_icmp_eq (tgt := 1939) C dL_law_1315 (by decide) (fun c => ?_) (fun c => ?_)
  · have h := h.1 c
    exact q_law_1939 C D hX hbl hbA hK18 _ _ h
  · have h := h.2 c
    refine V_iconst (v := 0) C dL_law_1318 (by decide) ?_
    exact h.elim
set_option maxHeartbeats 16000000 in
set_option maxRecDepth 100000 in
theorem q_law_1320 {X : vX} {G : vG}  {post : Unit} (C : v_Cx X G cL_law RL 4 room_1) (D : ∀ H locs ls, va_S (v_AA X) (v_s X).heap H locs → v_W X H locs (F0 (v_m X) 1946 ls [.int 1])) {bb L : Nat} {xs : Nat → Int32} (hX : va_X bb L xs (v_s X) (v_s X).heap) (hbl : bb < (v_s X).heap.size) (hbA : ¬ v_AA X bb)   {K18 : vSt → Int32 → Prop} (hK18 : ∀ S x3, K18 S x3 → VJ X G S 18 [(0, .ref bb), (1, .ref (G.1 0)), (2, .ref (G.1 143)), (3, .int x3)] []) : ∀ (S : vSt) (x3 : Int32), p_law_1320 L xs K18 post S x3 → VJ X G S 1320 [(0, .ref bb), (1, .ref (G.1 0)), (2, .ref (G.1 143)), (3, .int x3)] [] := by
  intro S x3 h
  refine V_aload_n C 1 dL_law_1320 rfl rfl ?_
  refine V_aload_n C 0 dL_law_1321 rfl rfl ?_
  refine V_iload_n C 3 dL_law_1322 rfl rfl ?_
  refine V_iconst (v := 1) C dL_law_1323 (by decide) ?_
  refine V_iadd C dL_law_1324 ?_
  obtain ⟨hi, h⟩ := h
  refine V_sld C hX hbl hbA hi dL_law_1325 ?_
  refine V_aload_n C 0 dL_law_1326 rfl rfl ?_
  refine V_iload_n C 3 dL_law_1327 rfl rfl ?_
  refine V_iconst (v := 2) C dL_law_1328 (by decide) ?_
  refine V_iadd C dL_law_1329 ?_
  obtain ⟨hi, h⟩ := h
  refine V_sld C hX hbl hbA hi dL_law_1330 ?_
  refine V_callVz (As := [.int (xs (Int32.toNatClampNeg (x3 + 1))), .int (xs (Int32.toNatClampNeg (x3 + 2)))]) (rest := []) C (c_X10_plan (v_l X) G  _ _ _ h) 0 10 (by decide) (by decide) (by decide) rfl KV_X10_plan k_RL_151 rfl rfl rfl (Nat.le_of_ble_eq_true rfl) ⟨by decide, by decide⟩ dL_law_1331 (fun r219 S218 h => ?_)
  refine V_aload_n C 2 dL_law_1334 rfl rfl ?_
  refine V_aload_n C 0 dL_law_1335 rfl rfl ?_
  refine V_iload_n C 3 dL_law_1336 rfl rfl ?_
  refine V_iconst (v := 1) C dL_law_1337 (by decide) ?_
  refine V_iadd C dL_law_1338 ?_
  obtain ⟨hi, h⟩ := h
  refine V_sld C hX hbl hbA hi dL_law_1339 ?_
  refine V_aload_n C 0 dL_law_1340 rfl rfl ?_
  refine V_iload_n C 3 dL_law_1341 rfl rfl ?_
  refine V_iconst (v := 2) C dL_law_1342 (by decide) ?_
  refine V_iadd C dL_law_1343 ?_
  obtain ⟨hi, h⟩ := h
  refine V_sld C hX hbl hbA hi dL_law_1344 ?_
  refine V_callVz (As := [.int (xs (Int32.toNatClampNeg (x3 + 1))), .int (xs (Int32.toNatClampNeg (x3 + 2)))]) (rest := [.int (v_b r219)]) C (c_X11_plan (v_l X) G  _ _ _ h) 143 11 (by decide) (by decide) (by decide) rfl KV_X11_plan k_RL_154 rfl rfl rfl (Nat.le_of_ble_eq_true rfl) ⟨by decide, by decide⟩ dL_law_1345 (fun r221 S220 h => ?_)
  refine V_icmp_eq (tgt := 1939) C dL_law_1348 (by decide) (fun c => ?_) (fun c => ?_)
  · have h := h.1 c
    exact q_law_1939 C D hX hbl hbA hK18 _ _ h
  · have h := h.2 c
    refine V_iconst (v := 0) C dL_law_1351 (by decide) ?_
    exact h.elim
set_option maxHeartbeats 16000000 in
set_option maxRecDepth 100000 in
theorem q_law_1353 {X : vX} {G : vG}  {post : Unit} (C : v_Cx X G cL_law RL 4 room_1) (D : ∀ H locs ls, va_S (v_AA X) (v_s X).heap H locs → v_W X H locs (F0 (v_m X) 1946 ls [.int 1])) {bb L : Nat} {xs : Nat → Int32} (hX : va_X bb L xs (v_s X) (v_s X).heap) (hbl : bb < (v_s X).heap.size) (hbA : ¬ v_AA X bb)   {K18 : vSt → Int32 → Prop} (hK18 : ∀ S x3, K18 S x3 → VJ X G S 18 [(0, .ref bb), (1, .ref (G.1 0)), (2, .ref (G.1 143)), (3, .int x3)] []) : ∀ (S : vSt) (x3 : Int32), p_law_1353 L xs K18 post S x3 → VJ X G S 1353 [(0, .ref bb), (1, .ref (G.1 0)), (2, .ref (G.1 143)), (3, .int x3)] [] := by
  intro S x3 h
  refine V_aload_n C 1 dL_law_1353 rfl rfl ?_
  refine V_aload_n C 0 dL_law_1354 rfl rfl ?_
  refine V_iload_n C 3 dL_law_1355 rfl rfl ?_
  refine V_iconst (v := 1) C dL_law_1356 (by decide) ?_
  refine V_iadd C dL_law_1357 ?_
  obtain ⟨hi, h⟩ := h
  refine V_sld C hX hbl hbA hi dL_law_1358 ?_
  refine V_callVi (As := [.int (xs (Int32.toNatClampNeg (x3 + 1)))]) (rest := []) C (c_X10_accuser (v_l X) G  _ _ h) 0 10 (by decide) (by decide) (by decide) rfl KV_X10_accuser k_RL_155 rfl rfl rfl (Nat.le_of_ble_eq_true rfl) ⟨by decide, by decide⟩ dL_law_1359 (fun r219 S218 h => ?_)
  refine V_aload_n C 2 dL_law_1362 rfl rfl ?_
  refine V_aload_n C 0 dL_law_1363 rfl rfl ?_
  refine V_iload_n C 3 dL_law_1364 rfl rfl ?_
  refine V_iconst (v := 1) C dL_law_1365 (by decide) ?_
  refine V_iadd C dL_law_1366 ?_
  obtain ⟨hi, h⟩ := h
  refine V_sld C hX hbl hbA hi dL_law_1367 ?_
  refine V_callVi (As := [.int (xs (Int32.toNatClampNeg (x3 + 1)))]) (rest := [.int r219]) C (c_X11_accuser (v_l X) G  _ _ h) 143 11 (by decide) (by decide) (by decide) rfl KV_X11_accuser k_RL_158 rfl rfl rfl (Nat.le_of_ble_eq_true rfl) ⟨by decide, by decide⟩ dL_law_1368 (fun r221 S220 h => ?_)
  refine V_icmp_eq (tgt := 1939) C dL_law_1371 (by decide) (fun c => ?_) (fun c => ?_)
  · have h := h.1 c
    exact q_law_1939 C D hX hbl hbA hK18 _ _ h
  · have h := h.2 c
    refine V_iconst (v := 0) C dL_law_1374 (by decide) ?_
    exact h.elim
set_option maxHeartbeats 16000000 in
set_option maxRecDepth 100000 in
theorem q_law_1376 {X : vX} {G : vG}  {post : Unit} (C : v_Cx X G cL_law RL 4 room_1) (D : ∀ H locs ls, va_S (v_AA X) (v_s X).heap H locs → v_W X H locs (F0 (v_m X) 1946 ls [.int 1])) {bb L : Nat} {xs : Nat → Int32} (hX : va_X bb L xs (v_s X) (v_s X).heap) (hbl : bb < (v_s X).heap.size) (hbA : ¬ v_AA X bb)   {K18 : vSt → Int32 → Prop} (hK18 : ∀ S x3, K18 S x3 → VJ X G S 18 [(0, .ref bb), (1, .ref (G.1 0)), (2, .ref (G.1 143)), (3, .int x3)] []) : ∀ (S : vSt) (x3 : Int32), p_law_1376 L xs K18 post S x3 → VJ X G S 1376 [(0, .ref bb), (1, .ref (G.1 0)), (2, .ref (G.1 143)), (3, .int x3)] [] := by
  intro S x3 h
  refine V_aload_n C 1 dL_law_1376 rfl rfl ?_
  refine V_aload_n C 0 dL_law_1377 rfl rfl ?_
  refine V_iload_n C 3 dL_law_1378 rfl rfl ?_
  refine V_iconst (v := 1) C dL_law_1379 (by decide) ?_
  refine V_iadd C dL_law_1380 ?_
  obtain ⟨hi, h⟩ := h
  refine V_sld C hX hbl hbA hi dL_law_1381 ?_
  refine V_callVi (As := [.int (xs (Int32.toNatClampNeg (x3 + 1)))]) (rest := []) C (c_X10_dreaded (v_l X) G  _ _ h) 0 10 (by decide) (by decide) (by decide) rfl KV_X10_dreaded k_RL_159 rfl rfl rfl (Nat.le_of_ble_eq_true rfl) ⟨by decide, by decide⟩ dL_law_1382 (fun r219 S218 h => ?_)
  refine V_aload_n C 2 dL_law_1385 rfl rfl ?_
  refine V_aload_n C 0 dL_law_1386 rfl rfl ?_
  refine V_iload_n C 3 dL_law_1387 rfl rfl ?_
  refine V_iconst (v := 1) C dL_law_1388 (by decide) ?_
  refine V_iadd C dL_law_1389 ?_
  obtain ⟨hi, h⟩ := h
  refine V_sld C hX hbl hbA hi dL_law_1390 ?_
  refine V_callVi (As := [.int (xs (Int32.toNatClampNeg (x3 + 1)))]) (rest := [.int r219]) C (c_X11_dreaded (v_l X) G  _ _ h) 143 11 (by decide) (by decide) (by decide) rfl KV_X11_dreaded k_RL_162 rfl rfl rfl (Nat.le_of_ble_eq_true rfl) ⟨by decide, by decide⟩ dL_law_1391 (fun r221 S220 h => ?_)
  refine V_icmp_eq (tgt := 1939) C dL_law_1394 (by decide) (fun c => ?_) (fun c => ?_)
  · have h := h.1 c
    exact q_law_1939 C D hX hbl hbA hK18 _ _ h
  · have h := h.2 c
    refine V_iconst (v := 0) C dL_law_1397 (by decide) ?_
    exact h.elim
set_option maxHeartbeats 16000000 in
set_option maxRecDepth 100000 in
theorem q_law_1399 {X : vX} {G : vG}  {post : Unit} (C : v_Cx X G cL_law RL 4 room_1) (D : ∀ H locs ls, va_S (v_AA X) (v_s X).heap H locs → v_W X H locs (F0 (v_m X) 1946 ls [.int 1])) {bb L : Nat} {xs : Nat → Int32} (hX : va_X bb L xs (v_s X) (v_s X).heap) (hbl : bb < (v_s X).heap.size) (hbA : ¬ v_AA X bb)   {K18 : vSt → Int32 → Prop} (hK18 : ∀ S x3, K18 S x3 → VJ X G S 18 [(0, .ref bb), (1, .ref (G.1 0)), (2, .ref (G.1 143)), (3, .int x3)] []) : ∀ (S : vSt) (x3 : Int32), p_law_1399 L xs K18 post S x3 → VJ X G S 1399 [(0, .ref bb), (1, .ref (G.1 0)), (2, .ref (G.1 143)), (3, .int x3)] [] := by
  intro S x3 h
  refine V_aload_n C 1 dL_law_1399 rfl rfl ?_
  refine V_aload_n C 0 dL_law_1400 rfl rfl ?_
  refine V_iload_n C 3 dL_law_1401 rfl rfl ?_
  refine V_iconst (v := 1) C dL_law_1402 (by decide) ?_
  refine V_iadd C dL_law_1403 ?_
  obtain ⟨hi, h⟩ := h
  refine V_sld C hX hbl hbA hi dL_law_1404 ?_
  refine V_callVz (As := [.int (xs (Int32.toNatClampNeg (x3 + 1)))]) (rest := []) C (c_X10_dread (v_l X) G  _ _ h) 0 10 (by decide) (by decide) (by decide) rfl KV_X10_dread k_RL_163 rfl rfl rfl (Nat.le_of_ble_eq_true rfl) ⟨by decide, by decide⟩ dL_law_1405 (fun r219 S218 h => ?_)
  refine V_aload_n C 2 dL_law_1408 rfl rfl ?_
  refine V_aload_n C 0 dL_law_1409 rfl rfl ?_
  refine V_iload_n C 3 dL_law_1410 rfl rfl ?_
  refine V_iconst (v := 1) C dL_law_1411 (by decide) ?_
  refine V_iadd C dL_law_1412 ?_
  obtain ⟨hi, h⟩ := h
  refine V_sld C hX hbl hbA hi dL_law_1413 ?_
  refine V_callVz (As := [.int (xs (Int32.toNatClampNeg (x3 + 1)))]) (rest := [.int (v_b r219)]) C (c_X11_dread (v_l X) G  _ _ h) 143 11 (by decide) (by decide) (by decide) rfl KV_X11_dread k_RL_166 rfl rfl rfl (Nat.le_of_ble_eq_true rfl) ⟨by decide, by decide⟩ dL_law_1414 (fun r221 S220 h => ?_)
  refine V_icmp_eq (tgt := 1939) C dL_law_1417 (by decide) (fun c => ?_) (fun c => ?_)
  · have h := h.1 c
    exact q_law_1939 C D hX hbl hbA hK18 _ _ h
  · have h := h.2 c
    refine V_iconst (v := 0) C dL_law_1420 (by decide) ?_
    exact h.elim
set_option maxHeartbeats 16000000 in
set_option maxRecDepth 100000 in
theorem q_law_1422 {X : vX} {G : vG}  {post : Unit} (C : v_Cx X G cL_law RL 4 room_1) (D : ∀ H locs ls, va_S (v_AA X) (v_s X).heap H locs → v_W X H locs (F0 (v_m X) 1946 ls [.int 1])) {bb L : Nat} {xs : Nat → Int32} (hX : va_X bb L xs (v_s X) (v_s X).heap) (hbl : bb < (v_s X).heap.size) (hbA : ¬ v_AA X bb)   {K18 : vSt → Int32 → Prop} (hK18 : ∀ S x3, K18 S x3 → VJ X G S 18 [(0, .ref bb), (1, .ref (G.1 0)), (2, .ref (G.1 143)), (3, .int x3)] []) : ∀ (S : vSt) (x3 : Int32), p_law_1422 L xs K18 post S x3 → VJ X G S 1422 [(0, .ref bb), (1, .ref (G.1 0)), (2, .ref (G.1 143)), (3, .int x3)] [] := by
  intro S x3 h
  refine V_aload_n C 1 dL_law_1422 rfl rfl ?_
  refine V_aload_n C 0 dL_law_1423 rfl rfl ?_
  refine V_iload_n C 3 dL_law_1424 rfl rfl ?_
  refine V_iconst (v := 1) C dL_law_1425 (by decide) ?_
  refine V_iadd C dL_law_1426 ?_
  obtain ⟨hi, h⟩ := h
  refine V_sld C hX hbl hbA hi dL_law_1427 ?_
  refine V_callVi (As := [.int (xs (Int32.toNatClampNeg (x3 + 1)))]) (rest := []) C (c_X10_friend (v_l X) G  _ _ h) 0 10 (by decide) (by decide) (by decide) rfl KV_X10_friend k_RL_167 rfl rfl rfl (Nat.le_of_ble_eq_true rfl) ⟨by decide, by decide⟩ dL_law_1428 (fun r219 S218 h => ?_)
  refine V_aload_n C 2 dL_law_1431 rfl rfl ?_
  refine V_aload_n C 0 dL_law_1432 rfl rfl ?_
  refine V_iload_n C 3 dL_law_1433 rfl rfl ?_
  refine V_iconst (v := 1) C dL_law_1434 (by decide) ?_
  refine V_iadd C dL_law_1435 ?_
  obtain ⟨hi, h⟩ := h
  refine V_sld C hX hbl hbA hi dL_law_1436 ?_
  refine V_callVi (As := [.int (xs (Int32.toNatClampNeg (x3 + 1)))]) (rest := [.int r219]) C (c_X11_friend (v_l X) G  _ _ h) 143 11 (by decide) (by decide) (by decide) rfl KV_X11_friend k_RL_170 rfl rfl rfl (Nat.le_of_ble_eq_true rfl) ⟨by decide, by decide⟩ dL_law_1437 (fun r221 S220 h => ?_)
  refine V_icmp_eq (tgt := 1939) C dL_law_1440 (by decide) (fun c => ?_) (fun c => ?_)
  · have h := h.1 c
    exact q_law_1939 C D hX hbl hbA hK18 _ _ h
  · have h := h.2 c
    refine V_iconst (v := 0) C dL_law_1443 (by decide) ?_
    exact h.elim
set_option maxHeartbeats 16000000 in
set_option maxRecDepth 100000 in
theorem q_law_1445 {X : vX} {G : vG}  {post : Unit} (C : v_Cx X G cL_law RL 4 room_1) (D : ∀ H locs ls, va_S (v_AA X) (v_s X).heap H locs → v_W X H locs (F0 (v_m X) 1946 ls [.int 1])) {bb L : Nat} {xs : Nat → Int32} (hX : va_X bb L xs (v_s X) (v_s X).heap) (hbl : bb < (v_s X).heap.size) (hbA : ¬ v_AA X bb)   {K18 : vSt → Int32 → Prop} (hK18 : ∀ S x3, K18 S x3 → VJ X G S 18 [(0, .ref bb), (1, .ref (G.1 0)), (2, .ref (G.1 143)), (3, .int x3)] []) : ∀ (S : vSt) (x3 : Int32), p_law_1445 L xs K18 post S x3 → VJ X G S 1445 [(0, .ref bb), (1, .ref (G.1 0)), (2, .ref (G.1 143)), (3, .int x3)] [] := by
  intro S x3 h
  refine V_aload_n C 1 dL_law_1445 rfl rfl ?_
  refine V_callVi (As := []) (rest := []) C (c_X10_quiet (v_l X) G  _ h) 0 10 (by decide) (by decide) (by decide) rfl KV_X10_quiet k_RL_171 rfl rfl rfl (Nat.le_of_ble_eq_true rfl) ⟨by decide, by decide⟩ dL_law_1446 (fun r219 S218 h => ?_)
  refine V_aload_n C 2 dL_law_1449 rfl rfl ?_
  refine V_callVi (As := []) (rest := [.int r219]) C (c_X11_quiet (v_l X) G  _ h) 143 11 (by decide) (by decide) (by decide) rfl KV_X11_quiet k_RL_174 rfl rfl rfl (Nat.le_of_ble_eq_true rfl) ⟨by decide, by decide⟩ dL_law_1450 (fun r221 S220 h => ?_)
  refine V_icmp_eq (tgt := 1939) C dL_law_1453 (by decide) (fun c => ?_) (fun c => ?_)
  · have h := h.1 c
    exact q_law_1939 C D hX hbl hbA hK18 _ _ h
  · have h := h.2 c
    refine V_iconst (v := 0) C dL_law_1456 (by decide) ?_
    exact h.elim
set_option maxHeartbeats 16000000 in
set_option maxRecDepth 100000 in
theorem q_law_1458 {X : vX} {G : vG}  {post : Unit} (C : v_Cx X G cL_law RL 4 room_1) (D : ∀ H locs ls, va_S (v_AA X) (v_s X).heap H locs → v_W X H locs (F0 (v_m X) 1946 ls [.int 1])) {bb L : Nat} {xs : Nat → Int32} (hX : va_X bb L xs (v_s X) (v_s X).heap) (hbl : bb < (v_s X).heap.size) (hbA : ¬ v_AA X bb)   {K18 : vSt → Int32 → Prop} (hK18 : ∀ S x3, K18 S x3 → VJ X G S 18 [(0, .ref bb), (1, .ref (G.1 0)), (2, .ref (G.1 143)), (3, .int x3)] []) : ∀ (S : vSt) (x3 : Int32), p_law_1458 L xs K18 post S x3 → VJ X G S 1458 [(0, .ref bb), (1, .ref (G.1 0)), (2, .ref (G.1 143)), (3, .int x3)] [] := by
  intro S x3 h
  refine V_aload_n C 1 dL_law_1458 rfl rfl ?_
  refine V_aload_n C 0 dL_law_1459 rfl rfl ?_
  refine V_iload_n C 3 dL_law_1460 rfl rfl ?_
  refine V_iconst (v := 1) C dL_law_1461 (by decide) ?_
  refine V_iadd C dL_law_1462 ?_
  obtain ⟨hi, h⟩ := h
  refine V_sld C hX hbl hbA hi dL_law_1463 ?_
  refine V_aload_n C 0 dL_law_1464 rfl rfl ?_
  refine V_iload_n C 3 dL_law_1465 rfl rfl ?_
  refine V_iconst (v := 2) C dL_law_1466 (by decide) ?_
  refine V_iadd C dL_law_1467 ?_
  obtain ⟨hi, h⟩ := h
  refine V_sld C hX hbl hbA hi dL_law_1468 ?_
  refine V_aload_n C 0 dL_law_1469 rfl rfl ?_
  refine V_iload_n C 3 dL_law_1470 rfl rfl ?_
  refine V_iconst (v := 3) C dL_law_1471 (by decide) ?_
  refine V_iadd C dL_law_1472 ?_
  obtain ⟨hi, h⟩ := h
  refine V_sld C hX hbl hbA hi dL_law_1473 ?_
  refine V_callVi (As := [.int (xs (Int32.toNatClampNeg (x3 + 1))), .int (xs (Int32.toNatClampNeg (x3 + 2))), .int (xs (Int32.toNatClampNeg (x3 + 3)))]) (rest := []) C (c_X10_trade (v_l X) G  _ _ _ _ h) 0 10 (by decide) (by decide) (by decide) rfl KV_X10_trade k_RL_175 rfl rfl rfl (Nat.le_of_ble_eq_true rfl) ⟨by decide, by decide⟩ dL_law_1474 (fun r219 S218 h => ?_)
  refine V_aload_n C 2 dL_law_1477 rfl rfl ?_
  refine V_aload_n C 0 dL_law_1478 rfl rfl ?_
  refine V_iload_n C 3 dL_law_1479 rfl rfl ?_
  refine V_iconst (v := 1) C dL_law_1480 (by decide) ?_
  refine V_iadd C dL_law_1481 ?_
  obtain ⟨hi, h⟩ := h
  refine V_sld C hX hbl hbA hi dL_law_1482 ?_
  refine V_aload_n C 0 dL_law_1483 rfl rfl ?_
  refine V_iload_n C 3 dL_law_1484 rfl rfl ?_
  refine V_iconst (v := 2) C dL_law_1485 (by decide) ?_
  refine V_iadd C dL_law_1486 ?_
  obtain ⟨hi, h⟩ := h
  refine V_sld C hX hbl hbA hi dL_law_1487 ?_
  refine V_aload_n C 0 dL_law_1488 rfl rfl ?_
  refine V_iload_n C 3 dL_law_1489 rfl rfl ?_
  refine V_iconst (v := 3) C dL_law_1490 (by decide) ?_
  refine V_iadd C dL_law_1491 ?_
  obtain ⟨hi, h⟩ := h
  refine V_sld C hX hbl hbA hi dL_law_1492 ?_
  refine V_callVi (As := [.int (xs (Int32.toNatClampNeg (x3 + 1))), .int (xs (Int32.toNatClampNeg (x3 + 2))), .int (xs (Int32.toNatClampNeg (x3 + 3)))]) (rest := [.int r219]) C (c_X11_trade (v_l X) G  _ _ _ _ h) 143 11 (by decide) (by decide) (by decide) rfl KV_X11_trade k_RL_178 rfl rfl rfl (Nat.le_of_ble_eq_true rfl) ⟨by decide, by decide⟩ dL_law_1493 (fun r221 S220 h => ?_)
  refine V_icmp_eq (tgt := 1939) C dL_law_1496 (by decide) (fun c => ?_) (fun c => ?_)
  · have h := h.1 c
    exact q_law_1939 C D hX hbl hbA hK18 _ _ h
  · have h := h.2 c
    refine V_iconst (v := 0) C dL_law_1499 (by decide) ?_
    exact h.elim
set_option maxHeartbeats 16000000 in
set_option maxRecDepth 100000 in
theorem q_law_1501 {X : vX} {G : vG}  {post : Unit} (C : v_Cx X G cL_law RL 4 room_1) (D : ∀ H locs ls, va_S (v_AA X) (v_s X).heap H locs → v_W X H locs (F0 (v_m X) 1946 ls [.int 1])) {bb L : Nat} {xs : Nat → Int32} (hX : va_X bb L xs (v_s X) (v_s X).heap) (hbl : bb < (v_s X).heap.size) (hbA : ¬ v_AA X bb)   {K18 : vSt → Int32 → Prop} (hK18 : ∀ S x3, K18 S x3 → VJ X G S 18 [(0, .ref bb), (1, .ref (G.1 0)), (2, .ref (G.1 143)), (3, .int x3)] []) : ∀ (S : vSt) (x3 : Int32), p_law_1501 L xs K18 post S x3 → VJ X G S 1501 [(0, .ref bb), (1, .ref (G.1 0)), (2, .ref (G.1 143)), (3, .int x3)] [] := by
  intro S x3 h
  refine V_aload_n C 1 dL_law_1501 rfl rfl ?_
  refine V_aload_n C 0 dL_law_1502 rfl rfl ?_
  refine V_iload_n C 3 dL_law_1503 rfl rfl ?_
  refine V_iconst (v := 1) C dL_law_1504 (by decide) ?_
  refine V_iadd C dL_law_1505 ?_
  obtain ⟨hi, h⟩ := h
  refine V_sld C hX hbl hbA hi dL_law_1506 ?_
  refine V_callVi (As := [.int (xs (Int32.toNatClampNeg (x3 + 1)))]) (rest := []) C (c_X10_leastShare (v_l X) G  _ _ h) 0 10 (by decide) (by decide) (by decide) rfl KV_X10_leastShare k_RL_179 rfl rfl rfl (Nat.le_of_ble_eq_true rfl) ⟨by decide, by decide⟩ dL_law_1507 (fun r219 S218 h => ?_)
  refine V_aload_n C 2 dL_law_1510 rfl rfl ?_
  refine V_aload_n C 0 dL_law_1511 rfl rfl ?_
  refine V_iload_n C 3 dL_law_1512 rfl rfl ?_
  refine V_iconst (v := 1) C dL_law_1513 (by decide) ?_
  refine V_iadd C dL_law_1514 ?_
  obtain ⟨hi, h⟩ := h
  refine V_sld C hX hbl hbA hi dL_law_1515 ?_
  refine V_callVi (As := [.int (xs (Int32.toNatClampNeg (x3 + 1)))]) (rest := [.int r219]) C (c_X11_leastShare (v_l X) G  _ _ h) 143 11 (by decide) (by decide) (by decide) rfl KV_X11_leastShare k_RL_182 rfl rfl rfl (Nat.le_of_ble_eq_true rfl) ⟨by decide, by decide⟩ dL_law_1516 (fun r221 S220 h => ?_)
  refine V_icmp_eq (tgt := 1939) C dL_law_1519 (by decide) (fun c => ?_) (fun c => ?_)
  · have h := h.1 c
    exact q_law_1939 C D hX hbl hbA hK18 _ _ h
  · have h := h.2 c
    refine V_iconst (v := 0) C dL_law_1522 (by decide) ?_
    exact h.elim
set_option maxHeartbeats 16000000 in
set_option maxRecDepth 100000 in
theorem q_law_1524 {X : vX} {G : vG}  {post : Unit} (C : v_Cx X G cL_law RL 4 room_1) (D : ∀ H locs ls, va_S (v_AA X) (v_s X).heap H locs → v_W X H locs (F0 (v_m X) 1946 ls [.int 1])) {bb L : Nat} {xs : Nat → Int32} (hX : va_X bb L xs (v_s X) (v_s X).heap) (hbl : bb < (v_s X).heap.size) (hbA : ¬ v_AA X bb)   {K18 : vSt → Int32 → Prop} (hK18 : ∀ S x3, K18 S x3 → VJ X G S 18 [(0, .ref bb), (1, .ref (G.1 0)), (2, .ref (G.1 143)), (3, .int x3)] []) : ∀ (S : vSt) (x3 : Int32), p_law_1524 L xs K18 post S x3 → VJ X G S 1524 [(0, .ref bb), (1, .ref (G.1 0)), (2, .ref (G.1 143)), (3, .int x3)] [] := by
  intro S x3 h
  refine V_aload_n C 1 dL_law_1524 rfl rfl ?_
  refine V_aload_n C 0 dL_law_1525 rfl rfl ?_
  refine V_iload_n C 3 dL_law_1526 rfl rfl ?_
  refine V_iconst (v := 1) C dL_law_1527 (by decide) ?_
  refine V_iadd C dL_law_1528 ?_
  obtain ⟨hi, h⟩ := h
  refine V_sld C hX hbl hbA hi dL_law_1529 ?_
  refine V_callVi (As := [.int (xs (Int32.toNatClampNeg (x3 + 1)))]) (rest := []) C (c_X10_leastFine (v_l X) G  _ _ h) 0 10 (by decide) (by decide) (by decide) rfl KV_X10_leastFine k_RL_183 rfl rfl rfl (Nat.le_of_ble_eq_true rfl) ⟨by decide, by decide⟩ dL_law_1530 (fun r219 S218 h => ?_)
  refine V_aload_n C 2 dL_law_1533 rfl rfl ?_
  refine V_aload_n C 0 dL_law_1534 rfl rfl ?_
  refine V_iload_n C 3 dL_law_1535 rfl rfl ?_
  refine V_iconst (v := 1) C dL_law_1536 (by decide) ?_
  refine V_iadd C dL_law_1537 ?_
  obtain ⟨hi, h⟩ := h
  refine V_sld C hX hbl hbA hi dL_law_1538 ?_
  refine V_callVi (As := [.int (xs (Int32.toNatClampNeg (x3 + 1)))]) (rest := [.int r219]) C (c_X11_leastFine (v_l X) G  _ _ h) 143 11 (by decide) (by decide) (by decide) rfl KV_X11_leastFine k_RL_186 rfl rfl rfl (Nat.le_of_ble_eq_true rfl) ⟨by decide, by decide⟩ dL_law_1539 (fun r221 S220 h => ?_)
  refine V_icmp_eq (tgt := 1939) C dL_law_1542 (by decide) (fun c => ?_) (fun c => ?_)
  · have h := h.1 c
    exact q_law_1939 C D hX hbl hbA hK18 _ _ h
  · have h := h.2 c
    refine V_iconst (v := 0) C dL_law_1545 (by decide) ?_
    exact h.elim
set_option maxHeartbeats 16000000 in
set_option maxRecDepth 100000 in
theorem q_law_1547 {X : vX} {G : vG}  {post : Unit} (C : v_Cx X G cL_law RL 4 room_1) (D : ∀ H locs ls, va_S (v_AA X) (v_s X).heap H locs → v_W X H locs (F0 (v_m X) 1946 ls [.int 1])) {bb L : Nat} {xs : Nat → Int32} (hX : va_X bb L xs (v_s X) (v_s X).heap) (hbl : bb < (v_s X).heap.size) (hbA : ¬ v_AA X bb)   {K18 : vSt → Int32 → Prop} (hK18 : ∀ S x3, K18 S x3 → VJ X G S 18 [(0, .ref bb), (1, .ref (G.1 0)), (2, .ref (G.1 143)), (3, .int x3)] []) : ∀ (S : vSt) (x3 : Int32), p_law_1547 L xs K18 post S x3 → VJ X G S 1547 [(0, .ref bb), (1, .ref (G.1 0)), (2, .ref (G.1 143)), (3, .int x3)] [] := by
  intro S x3 h
  refine V_aload_n C 1 dL_law_1547 rfl rfl ?_
  refine V_aload_n C 0 dL_law_1548 rfl rfl ?_
  refine V_iload_n C 3 dL_law_1549 rfl rfl ?_
  refine V_iconst (v := 1) C dL_law_1550 (by decide) ?_
  refine V_iadd C dL_law_1551 ?_
  obtain ⟨hi, h⟩ := h
  refine V_sld C hX hbl hbA hi dL_law_1552 ?_
  refine V_callVi (As := [.int (xs (Int32.toNatClampNeg (x3 + 1)))]) (rest := []) C (c_X10_mostPenalty (v_l X) G  _ _ h) 0 10 (by decide) (by decide) (by decide) rfl KV_X10_mostPenalty k_RL_187 rfl rfl rfl (Nat.le_of_ble_eq_true rfl) ⟨by decide, by decide⟩ dL_law_1553 (fun r219 S218 h => ?_)
  refine V_aload_n C 2 dL_law_1556 rfl rfl ?_
  refine V_aload_n C 0 dL_law_1557 rfl rfl ?_
  refine V_iload_n C 3 dL_law_1558 rfl rfl ?_
  refine V_iconst (v := 1) C dL_law_1559 (by decide) ?_
  refine V_iadd C dL_law_1560 ?_
  obtain ⟨hi, h⟩ := h
  refine V_sld C hX hbl hbA hi dL_law_1561 ?_
  refine V_callVi (As := [.int (xs (Int32.toNatClampNeg (x3 + 1)))]) (rest := [.int r219]) C (c_X11_mostPenalty (v_l X) G  _ _ h) 143 11 (by decide) (by decide) (by decide) rfl KV_X11_mostPenalty k_RL_190 rfl rfl rfl (Nat.le_of_ble_eq_true rfl) ⟨by decide, by decide⟩ dL_law_1562 (fun r221 S220 h => ?_)
  refine V_icmp_eq (tgt := 1939) C dL_law_1565 (by decide) (fun c => ?_) (fun c => ?_)
  · have h := h.1 c
    exact q_law_1939 C D hX hbl hbA hK18 _ _ h
  · have h := h.2 c
    refine V_iconst (v := 0) C dL_law_1568 (by decide) ?_
    exact h.elim
set_option maxHeartbeats 16000000 in
set_option maxRecDepth 100000 in
theorem q_law_1570 {X : vX} {G : vG}  {post : Unit} (C : v_Cx X G cL_law RL 4 room_1) (D : ∀ H locs ls, va_S (v_AA X) (v_s X).heap H locs → v_W X H locs (F0 (v_m X) 1946 ls [.int 1])) {bb L : Nat} {xs : Nat → Int32} (hX : va_X bb L xs (v_s X) (v_s X).heap) (hbl : bb < (v_s X).heap.size) (hbA : ¬ v_AA X bb)   {K18 : vSt → Int32 → Prop} (hK18 : ∀ S x3, K18 S x3 → VJ X G S 18 [(0, .ref bb), (1, .ref (G.1 0)), (2, .ref (G.1 143)), (3, .int x3)] []) : ∀ (S : vSt) (x3 : Int32), p_law_1570 L xs K18 post S x3 → VJ X G S 1570 [(0, .ref bb), (1, .ref (G.1 0)), (2, .ref (G.1 143)), (3, .int x3)] [] := by
  intro S x3 h
  refine V_aload_n C 1 dL_law_1570 rfl rfl ?_
  refine V_aload_n C 0 dL_law_1571 rfl rfl ?_
  refine V_iload_n C 3 dL_law_1572 rfl rfl ?_
  refine V_iconst (v := 1) C dL_law_1573 (by decide) ?_
  refine V_iadd C dL_law_1574 ?_
  obtain ⟨hi, h⟩ := h
  refine V_sld C hX hbl hbA hi dL_law_1575 ?_
  refine V_aload_n C 0 dL_law_1576 rfl rfl ?_
  refine V_iload_n C 3 dL_law_1577 rfl rfl ?_
  refine V_iconst (v := 2) C dL_law_1578 (by decide) ?_
  refine V_iadd C dL_law_1579 ?_
  obtain ⟨hi, h⟩ := h
  refine V_sld C hX hbl hbA hi dL_law_1580 ?_
  refine V_callVi (As := [.int (xs (Int32.toNatClampNeg (x3 + 1))), .int (xs (Int32.toNatClampNeg (x3 + 2)))]) (rest := []) C (c_X10_gladBy (v_l X) G  _ _ _ h) 0 10 (by decide) (by decide) (by decide) rfl KV_X10_gladBy k_RL_191 rfl rfl rfl (Nat.le_of_ble_eq_true rfl) ⟨by decide, by decide⟩ dL_law_1581 (fun r219 S218 h => ?_)
  refine V_aload_n C 2 dL_law_1584 rfl rfl ?_
  refine V_aload_n C 0 dL_law_1585 rfl rfl ?_
  refine V_iload_n C 3 dL_law_1586 rfl rfl ?_
  refine V_iconst (v := 1) C dL_law_1587 (by decide) ?_
  refine V_iadd C dL_law_1588 ?_
  obtain ⟨hi, h⟩ := h
  refine V_sld C hX hbl hbA hi dL_law_1589 ?_
  refine V_aload_n C 0 dL_law_1590 rfl rfl ?_
  refine V_iload_n C 3 dL_law_1591 rfl rfl ?_
  refine V_iconst (v := 2) C dL_law_1592 (by decide) ?_
  refine V_iadd C dL_law_1593 ?_
  obtain ⟨hi, h⟩ := h
  refine V_sld C hX hbl hbA hi dL_law_1594 ?_
  refine V_callVi (As := [.int (xs (Int32.toNatClampNeg (x3 + 1))), .int (xs (Int32.toNatClampNeg (x3 + 2)))]) (rest := [.int r219]) C (c_X11_gladBy (v_l X) G  _ _ _ h) 143 11 (by decide) (by decide) (by decide) rfl KV_X11_gladBy k_RL_194 rfl rfl rfl (Nat.le_of_ble_eq_true rfl) ⟨by decide, by decide⟩ dL_law_1595 (fun r221 S220 h => ?_)
  refine V_icmp_eq (tgt := 1939) C dL_law_1598 (by decide) (fun c => ?_) (fun c => ?_)
  · have h := h.1 c
    exact q_law_1939 C D hX hbl hbA hK18 _ _ h
  · have h := h.2 c
    refine V_iconst (v := 0) C dL_law_1601 (by decide) ?_
    exact h.elim
set_option maxHeartbeats 16000000 in
set_option maxRecDepth 100000 in
theorem q_law_1603 {X : vX} {G : vG}  {post : Unit} (C : v_Cx X G cL_law RL 4 room_1) (D : ∀ H locs ls, va_S (v_AA X) (v_s X).heap H locs → v_W X H locs (F0 (v_m X) 1946 ls [.int 1])) {bb L : Nat} {xs : Nat → Int32} (hX : va_X bb L xs (v_s X) (v_s X).heap) (hbl : bb < (v_s X).heap.size) (hbA : ¬ v_AA X bb)   {K18 : vSt → Int32 → Prop} (hK18 : ∀ S x3, K18 S x3 → VJ X G S 18 [(0, .ref bb), (1, .ref (G.1 0)), (2, .ref (G.1 143)), (3, .int x3)] []) : ∀ (S : vSt) (x3 : Int32), p_law_1603 L xs K18 post S x3 → VJ X G S 1603 [(0, .ref bb), (1, .ref (G.1 0)), (2, .ref (G.1 143)), (3, .int x3)] [] := by
  intro S x3 h
  refine V_aload_n C 1 dL_law_1603 rfl rfl ?_
  refine V_aload_n C 0 dL_law_1604 rfl rfl ?_
  refine V_iload_n C 3 dL_law_1605 rfl rfl ?_
  refine V_iconst (v := 1) C dL_law_1606 (by decide) ?_
  refine V_iadd C dL_law_1607 ?_
  obtain ⟨hi, h⟩ := h
  refine V_sld C hX hbl hbA hi dL_law_1608 ?_
  refine V_aload_n C 0 dL_law_1609 rfl rfl ?_
  refine V_iload_n C 3 dL_law_1610 rfl rfl ?_
  refine V_iconst (v := 2) C dL_law_1611 (by decide) ?_
  refine V_iadd C dL_law_1612 ?_
  obtain ⟨hi, h⟩ := h
  refine V_sld C hX hbl hbA hi dL_law_1613 ?_
  refine V_aload_n C 0 dL_law_1614 rfl rfl ?_
  refine V_iload_n C 3 dL_law_1615 rfl rfl ?_
  refine V_iconst (v := 3) C dL_law_1616 (by decide) ?_
  refine V_iadd C dL_law_1617 ?_
  obtain ⟨hi, h⟩ := h
  refine V_sld C hX hbl hbA hi dL_law_1618 ?_
  refine V_callVz (As := [.int (xs (Int32.toNatClampNeg (x3 + 1))), .int (xs (Int32.toNatClampNeg (x3 + 2))), .int (xs (Int32.toNatClampNeg (x3 + 3)))]) (rest := []) C (c_X10_game (v_l X) G  _ _ _ _ h) 0 10 (by decide) (by decide) (by decide) rfl KV_X10_game k_RL_195 rfl rfl rfl (Nat.le_of_ble_eq_true rfl) ⟨by decide, by decide⟩ dL_law_1619 (fun r219 S218 h => ?_)
  refine V_aload_n C 2 dL_law_1622 rfl rfl ?_
  refine V_aload_n C 0 dL_law_1623 rfl rfl ?_
  refine V_iload_n C 3 dL_law_1624 rfl rfl ?_
  refine V_iconst (v := 1) C dL_law_1625 (by decide) ?_
  refine V_iadd C dL_law_1626 ?_
  obtain ⟨hi, h⟩ := h
  refine V_sld C hX hbl hbA hi dL_law_1627 ?_
  refine V_aload_n C 0 dL_law_1628 rfl rfl ?_
  refine V_iload_n C 3 dL_law_1629 rfl rfl ?_
  refine V_iconst (v := 2) C dL_law_1630 (by decide) ?_
  refine V_iadd C dL_law_1631 ?_
  obtain ⟨hi, h⟩ := h
  refine V_sld C hX hbl hbA hi dL_law_1632 ?_
  refine V_aload_n C 0 dL_law_1633 rfl rfl ?_
  refine V_iload_n C 3 dL_law_1634 rfl rfl ?_
  refine V_iconst (v := 3) C dL_law_1635 (by decide) ?_
  refine V_iadd C dL_law_1636 ?_
  obtain ⟨hi, h⟩ := h
  refine V_sld C hX hbl hbA hi dL_law_1637 ?_
  refine V_callVz (As := [.int (xs (Int32.toNatClampNeg (x3 + 1))), .int (xs (Int32.toNatClampNeg (x3 + 2))), .int (xs (Int32.toNatClampNeg (x3 + 3)))]) (rest := [.int (v_b r219)]) C (c_X11_game (v_l X) G  _ _ _ _ h) 143 11 (by decide) (by decide) (by decide) rfl KV_X11_game k_RL_198 rfl rfl rfl (Nat.le_of_ble_eq_true rfl) ⟨by decide, by decide⟩ dL_law_1638 (fun r221 S220 h => ?_)
  refine V_icmp_eq (tgt := 1939) C dL_law_1641 (by decide) (fun c => ?_) (fun c => ?_)
  · have h := h.1 c
    exact q_law_1939 C D hX hbl hbA hK18 _ _ h
  · have h := h.2 c
    refine V_iconst (v := 0) C dL_law_1644 (by decide) ?_
    exact h.elim
set_option maxHeartbeats 16000000 in
set_option maxRecDepth 100000 in
theorem q_law_1646 {X : vX} {G : vG}  {post : Unit} (C : v_Cx X G cL_law RL 4 room_1) (D : ∀ H locs ls, va_S (v_AA X) (v_s X).heap H locs → v_W X H locs (F0 (v_m X) 1946 ls [.int 1])) {bb L : Nat} {xs : Nat → Int32} (hX : va_X bb L xs (v_s X) (v_s X).heap) (hbl : bb < (v_s X).heap.size) (hbA : ¬ v_AA X bb)   {K18 : vSt → Int32 → Prop} (hK18 : ∀ S x3, K18 S x3 → VJ X G S 18 [(0, .ref bb), (1, .ref (G.1 0)), (2, .ref (G.1 143)), (3, .int x3)] []) : ∀ (S : vSt) (x3 : Int32), p_law_1646 L xs K18 post S x3 → VJ X G S 1646 [(0, .ref bb), (1, .ref (G.1 0)), (2, .ref (G.1 143)), (3, .int x3)] [] := by
  intro S x3 h
  refine V_aload_n C 1 dL_law_1646 rfl rfl ?_
  refine V_aload_n C 0 dL_law_1647 rfl rfl ?_
  refine V_iload_n C 3 dL_law_1648 rfl rfl ?_
  refine V_iconst (v := 1) C dL_law_1649 (by decide) ?_
  refine V_iadd C dL_law_1650 ?_
  obtain ⟨hi, h⟩ := h
  refine V_sld C hX hbl hbA hi dL_law_1651 ?_
  refine V_aload_n C 0 dL_law_1652 rfl rfl ?_
  refine V_iload_n C 3 dL_law_1653 rfl rfl ?_
  refine V_iconst (v := 2) C dL_law_1654 (by decide) ?_
  refine V_iadd C dL_law_1655 ?_
  obtain ⟨hi, h⟩ := h
  refine V_sld C hX hbl hbA hi dL_law_1656 ?_
  refine V_aload_n C 0 dL_law_1657 rfl rfl ?_
  refine V_iload_n C 3 dL_law_1658 rfl rfl ?_
  refine V_iconst (v := 3) C dL_law_1659 (by decide) ?_
  refine V_iadd C dL_law_1660 ?_
  obtain ⟨hi, h⟩ := h
  refine V_sld C hX hbl hbA hi dL_law_1661 ?_
  refine V_callVi (As := [.int (xs (Int32.toNatClampNeg (x3 + 1))), .int (xs (Int32.toNatClampNeg (x3 + 2))), .int (xs (Int32.toNatClampNeg (x3 + 3)))]) (rest := []) C (c_X10_moveOf (v_l X) G  _ _ _ _ h) 0 10 (by decide) (by decide) (by decide) rfl KV_X10_moveOf k_RL_199 rfl rfl rfl (Nat.le_of_ble_eq_true rfl) ⟨by decide, by decide⟩ dL_law_1662 (fun r219 S218 h => ?_)
  refine V_aload_n C 2 dL_law_1665 rfl rfl ?_
  refine V_aload_n C 0 dL_law_1666 rfl rfl ?_
  refine V_iload_n C 3 dL_law_1667 rfl rfl ?_
  refine V_iconst (v := 1) C dL_law_1668 (by decide) ?_
  refine V_iadd C dL_law_1669 ?_
  obtain ⟨hi, h⟩ := h
  refine V_sld C hX hbl hbA hi dL_law_1670 ?_
  refine V_aload_n C 0 dL_law_1671 rfl rfl ?_
  refine V_iload_n C 3 dL_law_1672 rfl rfl ?_
  refine V_iconst (v := 2) C dL_law_1673 (by decide) ?_
  refine V_iadd C dL_law_1674 ?_
  obtain ⟨hi, h⟩ := h
  refine V_sld C hX hbl hbA hi dL_law_1675 ?_
  refine V_aload_n C 0 dL_law_1676 rfl rfl ?_
  refine V_iload_n C 3 dL_law_1677 rfl rfl ?_
  refine V_iconst (v := 3) C dL_law_1678 (by decide) ?_
  refine V_iadd C dL_law_1679 ?_
  obtain ⟨hi, h⟩ := h
  refine V_sld C hX hbl hbA hi dL_law_1680 ?_
  refine V_callVi (As := [.int (xs (Int32.toNatClampNeg (x3 + 1))), .int (xs (Int32.toNatClampNeg (x3 + 2))), .int (xs (Int32.toNatClampNeg (x3 + 3)))]) (rest := [.int r219]) C (c_X11_moveOf (v_l X) G  _ _ _ _ h) 143 11 (by decide) (by decide) (by decide) rfl KV_X11_moveOf k_RL_202 rfl rfl rfl (Nat.le_of_ble_eq_true rfl) ⟨by decide, by decide⟩ dL_law_1681 (fun r221 S220 h => ?_)
  refine V_icmp_eq (tgt := 1939) C dL_law_1684 (by decide) (fun c => ?_) (fun c => ?_)
  · have h := h.1 c
    exact q_law_1939 C D hX hbl hbA hK18 _ _ h
  · have h := h.2 c
    refine V_iconst (v := 0) C dL_law_1687 (by decide) ?_
    exact h.elim
set_option maxHeartbeats 16000000 in
set_option maxRecDepth 100000 in
theorem q_law_1689 {X : vX} {G : vG}  {post : Unit} (C : v_Cx X G cL_law RL 4 room_1) (D : ∀ H locs ls, va_S (v_AA X) (v_s X).heap H locs → v_W X H locs (F0 (v_m X) 1946 ls [.int 1])) {bb L : Nat} {xs : Nat → Int32} (hX : va_X bb L xs (v_s X) (v_s X).heap) (hbl : bb < (v_s X).heap.size) (hbA : ¬ v_AA X bb)   {K18 : vSt → Int32 → Prop} (hK18 : ∀ S x3, K18 S x3 → VJ X G S 18 [(0, .ref bb), (1, .ref (G.1 0)), (2, .ref (G.1 143)), (3, .int x3)] []) : ∀ (S : vSt) (x3 : Int32), p_law_1689 L xs K18 post S x3 → VJ X G S 1689 [(0, .ref bb), (1, .ref (G.1 0)), (2, .ref (G.1 143)), (3, .int x3)] [] := by
  intro S x3 h
  refine V_aload_n C 1 dL_law_1689 rfl rfl ?_
  refine V_aload_n C 0 dL_law_1690 rfl rfl ?_
  refine V_iload_n C 3 dL_law_1691 rfl rfl ?_
  refine V_iconst (v := 1) C dL_law_1692 (by decide) ?_
  refine V_iadd C dL_law_1693 ?_
  obtain ⟨hi, h⟩ := h
  refine V_sld C hX hbl hbA hi dL_law_1694 ?_
  refine V_callVi (As := [.int (xs (Int32.toNatClampNeg (x3 + 1)))]) (rest := []) C (c_X10_club (v_l X) G  _ _ h) 0 10 (by decide) (by decide) (by decide) rfl KV_X10_club k_RL_203 rfl rfl rfl (Nat.le_of_ble_eq_true rfl) ⟨by decide, by decide⟩ dL_law_1695 (fun r219 S218 h => ?_)
  refine V_aload_n C 2 dL_law_1698 rfl rfl ?_
  refine V_aload_n C 0 dL_law_1699 rfl rfl ?_
  refine V_iload_n C 3 dL_law_1700 rfl rfl ?_
  refine V_iconst (v := 1) C dL_law_1701 (by decide) ?_
  refine V_iadd C dL_law_1702 ?_
  obtain ⟨hi, h⟩ := h
  refine V_sld C hX hbl hbA hi dL_law_1703 ?_
  refine V_callVi (As := [.int (xs (Int32.toNatClampNeg (x3 + 1)))]) (rest := [.int r219]) C (c_X11_club (v_l X) G  _ _ h) 143 11 (by decide) (by decide) (by decide) rfl KV_X11_club k_RL_206 rfl rfl rfl (Nat.le_of_ble_eq_true rfl) ⟨by decide, by decide⟩ dL_law_1704 (fun r221 S220 h => ?_)
  refine V_icmp_eq (tgt := 1939) C dL_law_1707 (by decide) (fun c => ?_) (fun c => ?_)
  · have h := h.1 c
    exact q_law_1939 C D hX hbl hbA hK18 _ _ h
  · have h := h.2 c
    refine V_iconst (v := 0) C dL_law_1710 (by decide) ?_
    exact h.elim
set_option maxHeartbeats 16000000 in
set_option maxRecDepth 100000 in
theorem q_law_1712 {X : vX} {G : vG}  {post : Unit} (C : v_Cx X G cL_law RL 4 room_1) (D : ∀ H locs ls, va_S (v_AA X) (v_s X).heap H locs → v_W X H locs (F0 (v_m X) 1946 ls [.int 1])) {bb L : Nat} {xs : Nat → Int32} (hX : va_X bb L xs (v_s X) (v_s X).heap) (hbl : bb < (v_s X).heap.size) (hbA : ¬ v_AA X bb)   {K18 : vSt → Int32 → Prop} (hK18 : ∀ S x3, K18 S x3 → VJ X G S 18 [(0, .ref bb), (1, .ref (G.1 0)), (2, .ref (G.1 143)), (3, .int x3)] []) : ∀ (S : vSt) (x3 : Int32), p_law_1712 L xs K18 post S x3 → VJ X G S 1712 [(0, .ref bb), (1, .ref (G.1 0)), (2, .ref (G.1 143)), (3, .int x3)] [] := by
  intro S x3 h
  refine V_aload_n C 1 dL_law_1712 rfl rfl ?_
  refine V_aload_n C 0 dL_law_1713 rfl rfl ?_
  refine V_iload_n C 3 dL_law_1714 rfl rfl ?_
  refine V_iconst (v := 1) C dL_law_1715 (by decide) ?_
  refine V_iadd C dL_law_1716 ?_
  obtain ⟨hi, h⟩ := h
  refine V_sld C hX hbl hbA hi dL_law_1717 ?_
  refine V_callVz (As := [.int (xs (Int32.toNatClampNeg (x3 + 1)))]) (rest := []) C (c_X10_clubPart (v_l X) G  _ _ h) 0 10 (by decide) (by decide) (by decide) rfl KV_X10_clubPart k_RL_207 rfl rfl rfl (Nat.le_of_ble_eq_true rfl) ⟨by decide, by decide⟩ dL_law_1718 (fun r219 S218 h => ?_)
  refine V_aload_n C 2 dL_law_1721 rfl rfl ?_
  refine V_aload_n C 0 dL_law_1722 rfl rfl ?_
  refine V_iload_n C 3 dL_law_1723 rfl rfl ?_
  refine V_iconst (v := 1) C dL_law_1724 (by decide) ?_
  refine V_iadd C dL_law_1725 ?_
  obtain ⟨hi, h⟩ := h
  refine V_sld C hX hbl hbA hi dL_law_1726 ?_
  refine V_callVz (As := [.int (xs (Int32.toNatClampNeg (x3 + 1)))]) (rest := [.int (v_b r219)]) C (c_X11_clubPart (v_l X) G  _ _ h) 143 11 (by decide) (by decide) (by decide) rfl KV_X11_clubPart k_RL_210 rfl rfl rfl (Nat.le_of_ble_eq_true rfl) ⟨by decide, by decide⟩ dL_law_1727 (fun r221 S220 h => ?_)
  refine V_icmp_eq (tgt := 1939) C dL_law_1730 (by decide) (fun c => ?_) (fun c => ?_)
  · have h := h.1 c
    exact q_law_1939 C D hX hbl hbA hK18 _ _ h
  · have h := h.2 c
    refine V_iconst (v := 0) C dL_law_1733 (by decide) ?_
    exact h.elim
set_option maxHeartbeats 16000000 in
set_option maxRecDepth 100000 in
theorem q_law_1735 {X : vX} {G : vG}  {post : Unit} (C : v_Cx X G cL_law RL 4 room_1) (D : ∀ H locs ls, va_S (v_AA X) (v_s X).heap H locs → v_W X H locs (F0 (v_m X) 1946 ls [.int 1])) {bb L : Nat} {xs : Nat → Int32} (hX : va_X bb L xs (v_s X) (v_s X).heap) (hbl : bb < (v_s X).heap.size) (hbA : ¬ v_AA X bb)   {K18 : vSt → Int32 → Prop} (hK18 : ∀ S x3, K18 S x3 → VJ X G S 18 [(0, .ref bb), (1, .ref (G.1 0)), (2, .ref (G.1 143)), (3, .int x3)] []) : ∀ (S : vSt) (x3 : Int32), p_law_1735 L xs K18 post S x3 → VJ X G S 1735 [(0, .ref bb), (1, .ref (G.1 0)), (2, .ref (G.1 143)), (3, .int x3)] [] := by
  intro S x3 h
  refine V_aload_n C 1 dL_law_1735 rfl rfl ?_
  refine V_aload_n C 0 dL_law_1736 rfl rfl ?_
  refine V_iload_n C 3 dL_law_1737 rfl rfl ?_
  refine V_iconst (v := 1) C dL_law_1738 (by decide) ?_
  refine V_iadd C dL_law_1739 ?_
  obtain ⟨hi, h⟩ := h
  refine V_sld C hX hbl hbA hi dL_law_1740 ?_
  refine V_aload_n C 0 dL_law_1741 rfl rfl ?_
  refine V_iload_n C 3 dL_law_1742 rfl rfl ?_
  refine V_iconst (v := 2) C dL_law_1743 (by decide) ?_
  refine V_iadd C dL_law_1744 ?_
  obtain ⟨hi, h⟩ := h
  refine V_sld C hX hbl hbA hi dL_law_1745 ?_
  refine V_callVi (As := [.int (xs (Int32.toNatClampNeg (x3 + 1))), .int (xs (Int32.toNatClampNeg (x3 + 2)))]) (rest := []) C (c_X10_gained (v_l X) G  _ _ _ h) 0 10 (by decide) (by decide) (by decide) rfl KV_X10_gained k_RL_211 rfl rfl rfl (Nat.le_of_ble_eq_true rfl) ⟨by decide, by decide⟩ dL_law_1746 (fun r219 S218 h => ?_)
  refine V_aload_n C 2 dL_law_1749 rfl rfl ?_
  refine V_aload_n C 0 dL_law_1750 rfl rfl ?_
  refine V_iload_n C 3 dL_law_1751 rfl rfl ?_
  refine V_iconst (v := 1) C dL_law_1752 (by decide) ?_
  refine V_iadd C dL_law_1753 ?_
  obtain ⟨hi, h⟩ := h
  refine V_sld C hX hbl hbA hi dL_law_1754 ?_
  refine V_aload_n C 0 dL_law_1755 rfl rfl ?_
  refine V_iload_n C 3 dL_law_1756 rfl rfl ?_
  refine V_iconst (v := 2) C dL_law_1757 (by decide) ?_
  refine V_iadd C dL_law_1758 ?_
  obtain ⟨hi, h⟩ := h
  refine V_sld C hX hbl hbA hi dL_law_1759 ?_
  refine V_callVi (As := [.int (xs (Int32.toNatClampNeg (x3 + 1))), .int (xs (Int32.toNatClampNeg (x3 + 2)))]) (rest := [.int r219]) C (c_X11_gained (v_l X) G  _ _ _ h) 143 11 (by decide) (by decide) (by decide) rfl KV_X11_gained k_RL_214 rfl rfl rfl (Nat.le_of_ble_eq_true rfl) ⟨by decide, by decide⟩ dL_law_1760 (fun r221 S220 h => ?_)
  refine V_icmp_eq (tgt := 1939) C dL_law_1763 (by decide) (fun c => ?_) (fun c => ?_)
  · have h := h.1 c
    exact q_law_1939 C D hX hbl hbA hK18 _ _ h
  · have h := h.2 c
    refine V_iconst (v := 0) C dL_law_1766 (by decide) ?_
    exact h.elim
set_option maxHeartbeats 16000000 in
set_option maxRecDepth 100000 in
theorem q_law_1768 {X : vX} {G : vG}  {post : Unit} (C : v_Cx X G cL_law RL 4 room_1) (D : ∀ H locs ls, va_S (v_AA X) (v_s X).heap H locs → v_W X H locs (F0 (v_m X) 1946 ls [.int 1])) {bb L : Nat} {xs : Nat → Int32} (hX : va_X bb L xs (v_s X) (v_s X).heap) (hbl : bb < (v_s X).heap.size) (hbA : ¬ v_AA X bb)   {K18 : vSt → Int32 → Prop} (hK18 : ∀ S x3, K18 S x3 → VJ X G S 18 [(0, .ref bb), (1, .ref (G.1 0)), (2, .ref (G.1 143)), (3, .int x3)] []) : ∀ (S : vSt) (x3 : Int32), p_law_1768 L xs K18 post S x3 → VJ X G S 1768 [(0, .ref bb), (1, .ref (G.1 0)), (2, .ref (G.1 143)), (3, .int x3)] [] := by
  intro S x3 h
  refine V_aload_n C 1 dL_law_1768 rfl rfl ?_
  refine V_aload_n C 0 dL_law_1769 rfl rfl ?_
  refine V_iload_n C 3 dL_law_1770 rfl rfl ?_
  refine V_iconst (v := 1) C dL_law_1771 (by decide) ?_
  refine V_iadd C dL_law_1772 ?_
  obtain ⟨hi, h⟩ := h
  refine V_sld C hX hbl hbA hi dL_law_1773 ?_
  refine V_aload_n C 0 dL_law_1774 rfl rfl ?_
  refine V_iload_n C 3 dL_law_1775 rfl rfl ?_
  refine V_iconst (v := 2) C dL_law_1776 (by decide) ?_
  refine V_iadd C dL_law_1777 ?_
  obtain ⟨hi, h⟩ := h
  refine V_sld C hX hbl hbA hi dL_law_1778 ?_
  refine V_callVi (As := [.int (xs (Int32.toNatClampNeg (x3 + 1))), .int (xs (Int32.toNatClampNeg (x3 + 2)))]) (rest := []) C (c_X10_sure (v_l X) G  _ _ _ h) 0 10 (by decide) (by decide) (by decide) rfl KV_X10_sure k_RL_215 rfl rfl rfl (Nat.le_of_ble_eq_true rfl) ⟨by decide, by decide⟩ dL_law_1779 (fun r219 S218 h => ?_)
  refine V_aload_n C 2 dL_law_1782 rfl rfl ?_
  refine V_aload_n C 0 dL_law_1783 rfl rfl ?_
  refine V_iload_n C 3 dL_law_1784 rfl rfl ?_
  refine V_iconst (v := 1) C dL_law_1785 (by decide) ?_
  refine V_iadd C dL_law_1786 ?_
  obtain ⟨hi, h⟩ := h
  refine V_sld C hX hbl hbA hi dL_law_1787 ?_
  refine V_aload_n C 0 dL_law_1788 rfl rfl ?_
  refine V_iload_n C 3 dL_law_1789 rfl rfl ?_
  refine V_iconst (v := 2) C dL_law_1790 (by decide) ?_
  refine V_iadd C dL_law_1791 ?_
  obtain ⟨hi, h⟩ := h
  refine V_sld C hX hbl hbA hi dL_law_1792 ?_
  refine V_callVi (As := [.int (xs (Int32.toNatClampNeg (x3 + 1))), .int (xs (Int32.toNatClampNeg (x3 + 2)))]) (rest := [.int r219]) C (c_X11_sure (v_l X) G  _ _ _ h) 143 11 (by decide) (by decide) (by decide) rfl KV_X11_sure k_RL_218 rfl rfl rfl (Nat.le_of_ble_eq_true rfl) ⟨by decide, by decide⟩ dL_law_1793 (fun r221 S220 h => ?_)
  refine V_icmp_eq (tgt := 1939) C dL_law_1796 (by decide) (fun c => ?_) (fun c => ?_)
  · have h := h.1 c
    exact q_law_1939 C D hX hbl hbA hK18 _ _ h
  · have h := h.2 c
    refine V_iconst (v := 0) C dL_law_1799 (by decide) ?_
    exact h.elim
set_option maxHeartbeats 16000000 in
set_option maxRecDepth 100000 in
theorem q_law_1801 {X : vX} {G : vG}  {post : Unit} (C : v_Cx X G cL_law RL 4 room_1) (D : ∀ H locs ls, va_S (v_AA X) (v_s X).heap H locs → v_W X H locs (F0 (v_m X) 1946 ls [.int 1])) {bb L : Nat} {xs : Nat → Int32} (hX : va_X bb L xs (v_s X) (v_s X).heap) (hbl : bb < (v_s X).heap.size) (hbA : ¬ v_AA X bb)   {K18 : vSt → Int32 → Prop} (hK18 : ∀ S x3, K18 S x3 → VJ X G S 18 [(0, .ref bb), (1, .ref (G.1 0)), (2, .ref (G.1 143)), (3, .int x3)] []) : ∀ (S : vSt) (x3 : Int32), p_law_1801 L xs K18 post S x3 → VJ X G S 1801 [(0, .ref bb), (1, .ref (G.1 0)), (2, .ref (G.1 143)), (3, .int x3)] [] := by
  intro S x3 h
  refine V_aload_n C 1 dL_law_1801 rfl rfl ?_
  refine V_aload_n C 0 dL_law_1802 rfl rfl ?_
  refine V_iload_n C 3 dL_law_1803 rfl rfl ?_
  refine V_iconst (v := 1) C dL_law_1804 (by decide) ?_
  refine V_iadd C dL_law_1805 ?_
  obtain ⟨hi, h⟩ := h
  refine V_sld C hX hbl hbA hi dL_law_1806 ?_
  refine V_aload_n C 0 dL_law_1807 rfl rfl ?_
  refine V_iload_n C 3 dL_law_1808 rfl rfl ?_
  refine V_iconst (v := 2) C dL_law_1809 (by decide) ?_
  refine V_iadd C dL_law_1810 ?_
  obtain ⟨hi, h⟩ := h
  refine V_sld C hX hbl hbA hi dL_law_1811 ?_
  refine V_callVi (As := [.int (xs (Int32.toNatClampNeg (x3 + 1))), .int (xs (Int32.toNatClampNeg (x3 + 2)))]) (rest := []) C (c_X10_bound (v_l X) G  _ _ _ h) 0 10 (by decide) (by decide) (by decide) rfl KV_X10_bound k_RL_219 rfl rfl rfl (Nat.le_of_ble_eq_true rfl) ⟨by decide, by decide⟩ dL_law_1812 (fun r219 S218 h => ?_)
  refine V_aload_n C 2 dL_law_1815 rfl rfl ?_
  refine V_aload_n C 0 dL_law_1816 rfl rfl ?_
  refine V_iload_n C 3 dL_law_1817 rfl rfl ?_
  refine V_iconst (v := 1) C dL_law_1818 (by decide) ?_
  refine V_iadd C dL_law_1819 ?_
  obtain ⟨hi, h⟩ := h
  refine V_sld C hX hbl hbA hi dL_law_1820 ?_
  refine V_aload_n C 0 dL_law_1821 rfl rfl ?_
  refine V_iload_n C 3 dL_law_1822 rfl rfl ?_
  refine V_iconst (v := 2) C dL_law_1823 (by decide) ?_
  refine V_iadd C dL_law_1824 ?_
  obtain ⟨hi, h⟩ := h
  refine V_sld C hX hbl hbA hi dL_law_1825 ?_
  refine V_callVi (As := [.int (xs (Int32.toNatClampNeg (x3 + 1))), .int (xs (Int32.toNatClampNeg (x3 + 2)))]) (rest := [.int r219]) C (c_X11_bound (v_l X) G  _ _ _ h) 143 11 (by decide) (by decide) (by decide) rfl KV_X11_bound k_RL_222 rfl rfl rfl (Nat.le_of_ble_eq_true rfl) ⟨by decide, by decide⟩ dL_law_1826 (fun r221 S220 h => ?_)
  refine V_icmp_eq (tgt := 1939) C dL_law_1829 (by decide) (fun c => ?_) (fun c => ?_)
  · have h := h.1 c
    exact q_law_1939 C D hX hbl hbA hK18 _ _ h
  · have h := h.2 c
    refine V_iconst (v := 0) C dL_law_1832 (by decide) ?_
    exact h.elim
set_option maxHeartbeats 16000000 in
set_option maxRecDepth 100000 in
theorem q_law_1834 {X : vX} {G : vG}  {post : Unit} (C : v_Cx X G cL_law RL 4 room_1) (D : ∀ H locs ls, va_S (v_AA X) (v_s X).heap H locs → v_W X H locs (F0 (v_m X) 1946 ls [.int 1])) {bb L : Nat} {xs : Nat → Int32} (hX : va_X bb L xs (v_s X) (v_s X).heap) (hbl : bb < (v_s X).heap.size) (hbA : ¬ v_AA X bb)   {K18 : vSt → Int32 → Prop} (hK18 : ∀ S x3, K18 S x3 → VJ X G S 18 [(0, .ref bb), (1, .ref (G.1 0)), (2, .ref (G.1 143)), (3, .int x3)] []) : ∀ (S : vSt) (x3 : Int32), p_law_1834 L xs K18 post S x3 → VJ X G S 1834 [(0, .ref bb), (1, .ref (G.1 0)), (2, .ref (G.1 143)), (3, .int x3)] [] := by
  intro S x3 h
  refine V_aload_n C 1 dL_law_1834 rfl rfl ?_
  refine V_aload_n C 0 dL_law_1835 rfl rfl ?_
  refine V_iload_n C 3 dL_law_1836 rfl rfl ?_
  refine V_iconst (v := 1) C dL_law_1837 (by decide) ?_
  refine V_iadd C dL_law_1838 ?_
  obtain ⟨hi, h⟩ := h
  refine V_sld C hX hbl hbA hi dL_law_1839 ?_
  refine V_callVi (As := [.int (xs (Int32.toNatClampNeg (x3 + 1)))]) (rest := []) C (c_X10_live (v_l X) G  _ _ h) 0 10 (by decide) (by decide) (by decide) rfl KV_X10_live k_RL_223 rfl rfl rfl (Nat.le_of_ble_eq_true rfl) ⟨by decide, by decide⟩ dL_law_1840 (fun r219 S218 h => ?_)
  refine V_aload_n C 2 dL_law_1843 rfl rfl ?_
  refine V_aload_n C 0 dL_law_1844 rfl rfl ?_
  refine V_iload_n C 3 dL_law_1845 rfl rfl ?_
  refine V_iconst (v := 1) C dL_law_1846 (by decide) ?_
  refine V_iadd C dL_law_1847 ?_
  obtain ⟨hi, h⟩ := h
  refine V_sld C hX hbl hbA hi dL_law_1848 ?_
  refine V_callVi (As := [.int (xs (Int32.toNatClampNeg (x3 + 1)))]) (rest := [.int r219]) C (c_X11_live (v_l X) G  _ _ h) 143 11 (by decide) (by decide) (by decide) rfl KV_X11_live k_RL_226 rfl rfl rfl (Nat.le_of_ble_eq_true rfl) ⟨by decide, by decide⟩ dL_law_1849 (fun r221 S220 h => ?_)
  refine V_icmp_eq (tgt := 1939) C dL_law_1852 (by decide) (fun c => ?_) (fun c => ?_)
  · have h := h.1 c
    exact q_law_1939 C D hX hbl hbA hK18 _ _ h
  · have h := h.2 c
    refine V_iconst (v := 0) C dL_law_1855 (by decide) ?_
    exact h.elim
set_option maxHeartbeats 16000000 in
set_option maxRecDepth 100000 in
theorem q_law_1857 {X : vX} {G : vG}  {post : Unit} (C : v_Cx X G cL_law RL 4 room_1) (D : ∀ H locs ls, va_S (v_AA X) (v_s X).heap H locs → v_W X H locs (F0 (v_m X) 1946 ls [.int 1])) {bb L : Nat} {xs : Nat → Int32} (hX : va_X bb L xs (v_s X) (v_s X).heap) (hbl : bb < (v_s X).heap.size) (hbA : ¬ v_AA X bb)   {K18 : vSt → Int32 → Prop} (hK18 : ∀ S x3, K18 S x3 → VJ X G S 18 [(0, .ref bb), (1, .ref (G.1 0)), (2, .ref (G.1 143)), (3, .int x3)] []) : ∀ (S : vSt) (x3 : Int32), p_law_1857 L xs K18 post S x3 → VJ X G S 1857 [(0, .ref bb), (1, .ref (G.1 0)), (2, .ref (G.1 143)), (3, .int x3)] [] := by
  intro S x3 h
  refine V_aload_n C 1 dL_law_1857 rfl rfl ?_
  refine V_aload_n C 0 dL_law_1858 rfl rfl ?_
  refine V_iload_n C 3 dL_law_1859 rfl rfl ?_
  refine V_iconst (v := 1) C dL_law_1860 (by decide) ?_
  refine V_iadd C dL_law_1861 ?_
  obtain ⟨hi, h⟩ := h
  refine V_sld C hX hbl hbA hi dL_law_1862 ?_
  refine V_callVi (As := [.int (xs (Int32.toNatClampNeg (x3 + 1)))]) (rest := []) C (c_X10_lived (v_l X) G  _ _ h) 0 10 (by decide) (by decide) (by decide) rfl KV_X10_lived k_RL_227 rfl rfl rfl (Nat.le_of_ble_eq_true rfl) ⟨by decide, by decide⟩ dL_law_1863 (fun r219 S218 h => ?_)
  refine V_aload_n C 2 dL_law_1866 rfl rfl ?_
  refine V_aload_n C 0 dL_law_1867 rfl rfl ?_
  refine V_iload_n C 3 dL_law_1868 rfl rfl ?_
  refine V_iconst (v := 1) C dL_law_1869 (by decide) ?_
  refine V_iadd C dL_law_1870 ?_
  obtain ⟨hi, h⟩ := h
  refine V_sld C hX hbl hbA hi dL_law_1871 ?_
  refine V_callVi (As := [.int (xs (Int32.toNatClampNeg (x3 + 1)))]) (rest := [.int r219]) C (c_X11_lived (v_l X) G  _ _ h) 143 11 (by decide) (by decide) (by decide) rfl KV_X11_lived k_RL_230 rfl rfl rfl (Nat.le_of_ble_eq_true rfl) ⟨by decide, by decide⟩ dL_law_1872 (fun r221 S220 h => ?_)
  refine V_icmp_eq (tgt := 1939) C dL_law_1875 (by decide) (fun c => ?_) (fun c => ?_)
  · have h := h.1 c
    exact q_law_1939 C D hX hbl hbA hK18 _ _ h
  · have h := h.2 c
    refine V_iconst (v := 0) C dL_law_1878 (by decide) ?_
    exact h.elim
set_option maxHeartbeats 16000000 in
set_option maxRecDepth 100000 in
theorem q_law_1880 {X : vX} {G : vG}  {post : Unit} (C : v_Cx X G cL_law RL 4 room_1) (D : ∀ H locs ls, va_S (v_AA X) (v_s X).heap H locs → v_W X H locs (F0 (v_m X) 1946 ls [.int 1])) {bb L : Nat} {xs : Nat → Int32} (hX : va_X bb L xs (v_s X) (v_s X).heap) (hbl : bb < (v_s X).heap.size) (hbA : ¬ v_AA X bb)   {K18 : vSt → Int32 → Prop} (hK18 : ∀ S x3, K18 S x3 → VJ X G S 18 [(0, .ref bb), (1, .ref (G.1 0)), (2, .ref (G.1 143)), (3, .int x3)] []) : ∀ (S : vSt) (x3 : Int32), p_law_1880 L xs K18 post S x3 → VJ X G S 1880 [(0, .ref bb), (1, .ref (G.1 0)), (2, .ref (G.1 143)), (3, .int x3)] [] := by
  intro S x3 h
  refine V_aload_n C 1 dL_law_1880 rfl rfl ?_
  refine V_aload_n C 0 dL_law_1881 rfl rfl ?_
  refine V_iload_n C 3 dL_law_1882 rfl rfl ?_
  refine V_iconst (v := 1) C dL_law_1883 (by decide) ?_
  refine V_iadd C dL_law_1884 ?_
  obtain ⟨hi, h⟩ := h
  refine V_sld C hX hbl hbA hi dL_law_1885 ?_
  refine V_aload_n C 0 dL_law_1886 rfl rfl ?_
  refine V_iload_n C 3 dL_law_1887 rfl rfl ?_
  refine V_iconst (v := 2) C dL_law_1888 (by decide) ?_
  refine V_iadd C dL_law_1889 ?_
  obtain ⟨hi, h⟩ := h
  refine V_sld C hX hbl hbA hi dL_law_1890 ?_
  refine V_callVz (As := [.int (xs (Int32.toNatClampNeg (x3 + 1))), .int (xs (Int32.toNatClampNeg (x3 + 2)))]) (rest := []) C (c_X10_mean (v_l X) G  _ _ _ h) 0 10 (by decide) (by decide) (by decide) rfl KV_X10_mean k_RL_231 rfl rfl rfl (Nat.le_of_ble_eq_true rfl) ⟨by decide, by decide⟩ dL_law_1891 (fun r219 S218 h => ?_)
  refine V_aload_n C 2 dL_law_1894 rfl rfl ?_
  refine V_aload_n C 0 dL_law_1895 rfl rfl ?_
  refine V_iload_n C 3 dL_law_1896 rfl rfl ?_
  refine V_iconst (v := 1) C dL_law_1897 (by decide) ?_
  refine V_iadd C dL_law_1898 ?_
  obtain ⟨hi, h⟩ := h
  refine V_sld C hX hbl hbA hi dL_law_1899 ?_
  refine V_aload_n C 0 dL_law_1900 rfl rfl ?_
  refine V_iload_n C 3 dL_law_1901 rfl rfl ?_
  refine V_iconst (v := 2) C dL_law_1902 (by decide) ?_
  refine V_iadd C dL_law_1903 ?_
  obtain ⟨hi, h⟩ := h
  refine V_sld C hX hbl hbA hi dL_law_1904 ?_
  refine V_callVz (As := [.int (xs (Int32.toNatClampNeg (x3 + 1))), .int (xs (Int32.toNatClampNeg (x3 + 2)))]) (rest := [.int (v_b r219)]) C (c_X11_mean (v_l X) G  _ _ _ h) 143 11 (by decide) (by decide) (by decide) rfl KV_X11_mean k_RL_234 rfl rfl rfl (Nat.le_of_ble_eq_true rfl) ⟨by decide, by decide⟩ dL_law_1905 (fun r221 S220 h => ?_)
  refine V_icmp_eq (tgt := 1939) C dL_law_1908 (by decide) (fun c => ?_) (fun c => ?_)
  · have h := h.1 c
    exact q_law_1939 C D hX hbl hbA hK18 _ _ h
  · have h := h.2 c
    refine V_iconst (v := 0) C dL_law_1911 (by decide) ?_
    exact h.elim
set_option maxHeartbeats 16000000 in
set_option maxRecDepth 100000 in
theorem q_law_1913 {X : vX} {G : vG}  {post : Unit} (C : v_Cx X G cL_law RL 4 room_1) (D : ∀ H locs ls, va_S (v_AA X) (v_s X).heap H locs → v_W X H locs (F0 (v_m X) 1946 ls [.int 1])) {bb L : Nat} {xs : Nat → Int32} (hX : va_X bb L xs (v_s X) (v_s X).heap) (hbl : bb < (v_s X).heap.size) (hbA : ¬ v_AA X bb)   {K18 : vSt → Int32 → Prop} (hK18 : ∀ S x3, K18 S x3 → VJ X G S 18 [(0, .ref bb), (1, .ref (G.1 0)), (2, .ref (G.1 143)), (3, .int x3)] []) : ∀ (S : vSt) (x3 : Int32), p_law_1913 L xs K18 post S x3 → VJ X G S 1913 [(0, .ref bb), (1, .ref (G.1 0)), (2, .ref (G.1 143)), (3, .int x3)] [] := by
  intro S x3 h
  refine V_aload_n C 1 dL_law_1913 rfl rfl ?_
  refine V_callVi (As := []) (rest := []) C (c_X10_mark (v_l X) G  _ h) 0 10 (by decide) (by decide) (by decide) rfl KV_X10_mark k_RL_235 rfl rfl rfl (Nat.le_of_ble_eq_true rfl) ⟨by decide, by decide⟩ dL_law_1914 (fun r219 S218 h => ?_)
  refine V_aload_n C 2 dL_law_1917 rfl rfl ?_
  refine V_callVi (As := []) (rest := [.int r219]) C (c_X11_mark (v_l X) G  _ h) 143 11 (by decide) (by decide) (by decide) rfl KV_X11_mark k_RL_238 rfl rfl rfl (Nat.le_of_ble_eq_true rfl) ⟨by decide, by decide⟩ dL_law_1918 (fun r221 S220 h => ?_)
  refine V_icmp_eq (tgt := 1939) C dL_law_1921 (by decide) (fun c => ?_) (fun c => ?_)
  · have h := h.1 c
    exact q_law_1939 C D hX hbl hbA hK18 _ _ h
  · have h := h.2 c
    refine V_iconst (v := 0) C dL_law_1924 (by decide) ?_
    exact h.elim
set_option maxHeartbeats 16000000 in
set_option maxRecDepth 100000 in
theorem q_law_1926 {X : vX} {G : vG}  {post : Unit} (C : v_Cx X G cL_law RL 4 room_1) (D : ∀ H locs ls, va_S (v_AA X) (v_s X).heap H locs → v_W X H locs (F0 (v_m X) 1946 ls [.int 1])) {bb L : Nat} {xs : Nat → Int32} (hX : va_X bb L xs (v_s X) (v_s X).heap) (hbl : bb < (v_s X).heap.size) (hbA : ¬ v_AA X bb)   {K18 : vSt → Int32 → Prop} (hK18 : ∀ S x3, K18 S x3 → VJ X G S 18 [(0, .ref bb), (1, .ref (G.1 0)), (2, .ref (G.1 143)), (3, .int x3)] []) : ∀ (S : vSt) (x3 : Int32), p_law_1926 L xs K18 post S x3 → VJ X G S 1926 [(0, .ref bb), (1, .ref (G.1 0)), (2, .ref (G.1 143)), (3, .int x3)] [] := by
  intro S x3 h
  refine V_aload_n C 1 dL_law_1926 rfl rfl ?_
  refine V_callVi (As := []) (rest := []) C (c_X10_back (v_l X) G  _ h) 0 10 (by decide) (by decide) (by decide) rfl KV_X10_back k_RL_239 rfl rfl rfl (Nat.le_of_ble_eq_true rfl) ⟨by decide, by decide⟩ dL_law_1927 (fun r219 S218 h => ?_)
  refine V_aload_n C 2 dL_law_1930 rfl rfl ?_
  refine V_callVi (As := []) (rest := [.int r219]) C (c_X11_back (v_l X) G  _ h) 143 11 (by decide) (by decide) (by decide) rfl KV_X11_back k_RL_242 rfl rfl rfl (Nat.le_of_ble_eq_true rfl) ⟨by decide, by decide⟩ dL_law_1931 (fun r221 S220 h => ?_)
  refine V_icmp_eq (tgt := 1939) C dL_law_1934 (by decide) (fun c => ?_) (fun c => ?_)
  · have h := h.1 c
    exact q_law_1939 C D hX hbl hbA hK18 _ _ h
  · have h := h.2 c
    refine V_iconst (v := 0) C dL_law_1937 (by decide) ?_
    exact h.elim
set_option maxHeartbeats 16000000 in
set_option maxRecDepth 100000 in
theorem q_law_18 {X : vX} {G : vG}  {post : Unit} (C : v_Cx X G cL_law RL 4 room_1) (D : ∀ H locs ls, va_S (v_AA X) (v_s X).heap H locs → v_W X H locs (F0 (v_m X) 1946 ls [.int 1])) {bb L : Nat} {xs : Nat → Int32} (hX : va_X bb L xs (v_s X) (v_s X).heap) (hbl : bb < (v_s X).heap.size) (hbA : ¬ v_AA X bb)    : ∀ (fu : Nat) (S : vSt) (x3 : Int32), p_law_18 L xs post fu S x3 → VJ X G S 18 [(0, .ref bb), (1, .ref (G.1 0)), (2, .ref (G.1 143)), (3, .int x3)] [] := by
  intro fu
  induction fu with
  | zero => intro S x3 h; exact absurd h id
  | succ fu ih =>
    intro S x3 h
    have hK18 := ih
    rw [e_law_18] at h
    refine V_iload_n C 3 dL_law_18 rfl rfl ?_
    refine V_aload_n C 0 dL_law_19 rfl rfl ?_
    refine V_slen C hX hbl hbA dL_law_20 ?_
    refine V_bipush (v := 6) C dL_law_21 (by decide) ?_
    refine V_isub C dL_law_23 ?_
    refine V_icmp_gt (tgt := 1945) C dL_law_24 (by decide) (fun c => ?_) (fun c => ?_)
    · have h := h.1 c
      refine V_iconst (v := 1) C dL_law_1945 (by decide) ?_
      exact fun H locs ls _ hS _ => D H locs ls hS
    · have h := h.2 c
      refine V_aload_n C 0 dL_law_27 rfl rfl ?_
      refine V_iload_n C 3 dL_law_28 rfl rfl ?_
      obtain ⟨hi, h⟩ := h
      refine V_sld C hX hbl hbA hi dL_law_29 ?_
      refine V_bipush (v := 63) C dL_law_30 (by decide) ?_
      refine V_iand C dL_law_32 ?_
      refine V_table (tgtd := 1939) C dL_law_33 (by decide) (fun c => ?_) (fun k hk c => ?_)
      · have h := h.2.2.2.2.2.2.2.2.2.2.2.2.2.2.2.2.2.2.2.2.2.2.2.2.2.2.2.2.2.2.2.2.2.2.2.2.2.2.2.2.2.2.2.2.2.2.2.2.2.2.2.2.2.2 (v_iout 0 53 c (by decide) (by decide))
        exact q_law_1939 C D hX hbl hbA hK18 _ _ h
      · have hk : k < 54 := hk
        rcases (show k = 0 ∨ k = 1 ∨ k = 2 ∨ k = 3 ∨ k = 4 ∨ k = 5 ∨ k = 6 ∨ k = 7 ∨ k = 8 ∨ k = 9 ∨ k = 10 ∨ k = 11 ∨ k = 12 ∨ k = 13 ∨ k = 14 ∨ k = 15 ∨ k = 16 ∨ k = 17 ∨ k = 18 ∨ k = 19 ∨ k = 20 ∨ k = 21 ∨ k = 22 ∨ k = 23 ∨ k = 24 ∨ k = 25 ∨ k = 26 ∨ k = 27 ∨ k = 28 ∨ k = 29 ∨ k = 30 ∨ k = 31 ∨ k = 32 ∨ k = 33 ∨ k = 34 ∨ k = 35 ∨ k = 36 ∨ k = 37 ∨ k = 38 ∨ k = 39 ∨ k = 40 ∨ k = 41 ∨ k = 42 ∨ k = 43 ∨ k = 44 ∨ k = 45 ∨ k = 46 ∨ k = 47 ∨ k = 48 ∨ k = 49 ∨ k = 50 ∨ k = 51 ∨ k = 52 ∨ k = 53 by omega) with rfl | rfl | rfl | rfl | rfl | rfl | rfl | rfl | rfl | rfl | rfl | rfl | rfl | rfl | rfl | rfl | rfl | rfl | rfl | rfl | rfl | rfl | rfl | rfl | rfl | rfl | rfl | rfl | rfl | rfl | rfl | rfl | rfl | rfl | rfl | rfl | rfl | rfl | rfl | rfl | rfl | rfl | rfl | rfl | rfl | rfl | rfl | rfl | rfl | rfl | rfl | rfl | rfl | rfl
        · refine ⟨264, by decide, ?_⟩
          have h := h.1 (v_ieq 0 c (by decide))
          exact q_law_264 C D hX hbl hbA hK18 _ _ h
        · refine ⟨277, by decide, ?_⟩
          have h := h.2.1 (v_ieq 1 c (by decide))
          exact q_law_277 C D hX hbl hbA hK18 _ _ h
        · refine ⟨291, by decide, ?_⟩
          have h := h.2.2.1 (v_ieq 2 c (by decide))
          exact q_law_291 C D hX hbl hbA hK18 _ _ h
        · refine ⟨305, by decide, ?_⟩
          have h := h.2.2.2.1 (v_ieq 3 c (by decide))
          exact q_law_305 C D hX hbl hbA hK18 _ _ h
        · refine ⟨348, by decide, ?_⟩
          have h := h.2.2.2.2.1 (v_ieq 4 c (by decide))
          exact q_law_348 C D hX hbl hbA hK18 _ _ h
        · refine ⟨421, by decide, ?_⟩
          have h := h.2.2.2.2.2.1 (v_ieq 5 c (by decide))
          exact q_law_421 C D hX hbl hbA hK18 _ _ h
        · refine ⟨455, by decide, ?_⟩
          have h := h.2.2.2.2.2.2.1 (v_ieq 6 c (by decide))
          exact q_law_455 C D hX hbl hbA hK18 _ _ h
        · refine ⟨518, by decide, ?_⟩
          have h := h.2.2.2.2.2.2.2.1 (v_ieq 7 c (by decide))
          exact q_law_518 C D hX hbl hbA hK18 _ _ h
        · refine ⟨581, by decide, ?_⟩
          have h := h.2.2.2.2.2.2.2.2.1 (v_ieq 8 c (by decide))
          exact q_law_581 C D hX hbl hbA hK18 _ _ h
        · refine ⟨604, by decide, ?_⟩
          have h := h.2.2.2.2.2.2.2.2.2.1 (v_ieq 9 c (by decide))
          exact q_law_604 C D hX hbl hbA hK18 _ _ h
        · refine ⟨627, by decide, ?_⟩
          have h := h.2.2.2.2.2.2.2.2.2.2.1 (v_ieq 10 c (by decide))
          exact q_law_627 C D hX hbl hbA hK18 _ _ h
        · refine ⟨650, by decide, ?_⟩
          have h := h.2.2.2.2.2.2.2.2.2.2.2.1 (v_ieq 11 c (by decide))
          exact q_law_650 C D hX hbl hbA hK18 _ _ h
        · refine ⟨673, by decide, ?_⟩
          have h := h.2.2.2.2.2.2.2.2.2.2.2.2.1 (v_ieq 12 c (by decide))
          exact q_law_673 C D hX hbl hbA hK18 _ _ h
        · refine ⟨706, by decide, ?_⟩
          have h := h.2.2.2.2.2.2.2.2.2.2.2.2.2.1 (v_ieq 13 c (by decide))
          exact q_law_706 C D hX hbl hbA hK18 _ _ h
        · refine ⟨739, by decide, ?_⟩
          have h := h.2.2.2.2.2.2.2.2.2.2.2.2.2.2.1 (v_ieq 14 c (by decide))
          exact q_law_739 C D hX hbl hbA hK18 _ _ h
        · refine ⟨762, by decide, ?_⟩
          have h := h.2.2.2.2.2.2.2.2.2.2.2.2.2.2.2.1 (v_ieq 15 c (by decide))
          exact q_law_762 C D hX hbl hbA hK18 _ _ h
        · refine ⟨805, by decide, ?_⟩
          have h := h.2.2.2.2.2.2.2.2.2.2.2.2.2.2.2.2.1 (v_ieq 16 c (by decide))
          exact q_law_805 C D hX hbl hbA hK18 _ _ h
        · refine ⟨848, by decide, ?_⟩
          have h := h.2.2.2.2.2.2.2.2.2.2.2.2.2.2.2.2.2.1 (v_ieq 17 c (by decide))
          exact q_law_848 C D hX hbl hbA hK18 _ _ h
        · refine ⟨891, by decide, ?_⟩
          have h := h.2.2.2.2.2.2.2.2.2.2.2.2.2.2.2.2.2.2.1 (v_ieq 18 c (by decide))
          exact q_law_891 C D hX hbl hbA hK18 _ _ h
        · refine ⟨934, by decide, ?_⟩
          have h := h.2.2.2.2.2.2.2.2.2.2.2.2.2.2.2.2.2.2.2.1 (v_ieq 19 c (by decide))
          exact q_law_934 C D hX hbl hbA hK18 _ _ h
        · refine ⟨957, by decide, ?_⟩
          have h := h.2.2.2.2.2.2.2.2.2.2.2.2.2.2.2.2.2.2.2.2.1 (v_ieq 20 c (by decide))
          exact q_law_957 C D hX hbl hbA hK18 _ _ h
        · refine ⟨990, by decide, ?_⟩
          have h := h.2.2.2.2.2.2.2.2.2.2.2.2.2.2.2.2.2.2.2.2.2.1 (v_ieq 21 c (by decide))
          exact q_law_990 C D hX hbl hbA hK18 _ _ h
        · refine ⟨1023, by decide, ?_⟩
          have h := h.2.2.2.2.2.2.2.2.2.2.2.2.2.2.2.2.2.2.2.2.2.2.1 (v_ieq 22 c (by decide))
          exact q_law_1023 C D hX hbl hbA hK18 _ _ h
        · refine ⟨1056, by decide, ?_⟩
          have h := h.2.2.2.2.2.2.2.2.2.2.2.2.2.2.2.2.2.2.2.2.2.2.2.1 (v_ieq 23 c (by decide))
          exact q_law_1056 C D hX hbl hbA hK18 _ _ h
        · refine ⟨1089, by decide, ?_⟩
          have h := h.2.2.2.2.2.2.2.2.2.2.2.2.2.2.2.2.2.2.2.2.2.2.2.2.1 (v_ieq 24 c (by decide))
          exact q_law_1089 C D hX hbl hbA hK18 _ _ h
        · refine ⟨1122, by decide, ?_⟩
          have h := h.2.2.2.2.2.2.2.2.2.2.2.2.2.2.2.2.2.2.2.2.2.2.2.2.2.1 (v_ieq 25 c (by decide))
          exact q_law_1122 C D hX hbl hbA hK18 _ _ h
        · refine ⟨1165, by decide, ?_⟩
          have h := h.2.2.2.2.2.2.2.2.2.2.2.2.2.2.2.2.2.2.2.2.2.2.2.2.2.2.1 (v_ieq 26 c (by decide))
          exact q_law_1165 C D hX hbl hbA hK18 _ _ h
        · refine ⟨1198, by decide, ?_⟩
          have h := h.2.2.2.2.2.2.2.2.2.2.2.2.2.2.2.2.2.2.2.2.2.2.2.2.2.2.2.1 (v_ieq 27 c (by decide))
          exact q_law_1198 C D hX hbl hbA hK18 _ _ h
        · refine ⟨1231, by decide, ?_⟩
          have h := h.2.2.2.2.2.2.2.2.2.2.2.2.2.2.2.2.2.2.2.2.2.2.2.2.2.2.2.2.1 (v_ieq 28 c (by decide))
          exact q_law_1231 C D hX hbl hbA hK18 _ _ h
        · refine ⟨1264, by decide, ?_⟩
          have h := h.2.2.2.2.2.2.2.2.2.2.2.2.2.2.2.2.2.2.2.2.2.2.2.2.2.2.2.2.2.1 (v_ieq 29 c (by decide))
          exact q_law_1264 C D hX hbl hbA hK18 _ _ h
        · refine ⟨1297, by decide, ?_⟩
          have h := h.2.2.2.2.2.2.2.2.2.2.2.2.2.2.2.2.2.2.2.2.2.2.2.2.2.2.2.2.2.2.1 (v_ieq 30 c (by decide))
          exact q_law_1297 C D hX hbl hbA hK18 _ _ h
        · refine ⟨1320, by decide, ?_⟩
          have h := h.2.2.2.2.2.2.2.2.2.2.2.2.2.2.2.2.2.2.2.2.2.2.2.2.2.2.2.2.2.2.2.1 (v_ieq 31 c (by decide))
          exact q_law_1320 C D hX hbl hbA hK18 _ _ h
        · refine ⟨1353, by decide, ?_⟩
          have h := h.2.2.2.2.2.2.2.2.2.2.2.2.2.2.2.2.2.2.2.2.2.2.2.2.2.2.2.2.2.2.2.2.1 (v_ieq 32 c (by decide))
          exact q_law_1353 C D hX hbl hbA hK18 _ _ h
        · refine ⟨1376, by decide, ?_⟩
          have h := h.2.2.2.2.2.2.2.2.2.2.2.2.2.2.2.2.2.2.2.2.2.2.2.2.2.2.2.2.2.2.2.2.2.1 (v_ieq 33 c (by decide))
          exact q_law_1376 C D hX hbl hbA hK18 _ _ h
        · refine ⟨1399, by decide, ?_⟩
          have h := h.2.2.2.2.2.2.2.2.2.2.2.2.2.2.2.2.2.2.2.2.2.2.2.2.2.2.2.2.2.2.2.2.2.2.1 (v_ieq 34 c (by decide))
          exact q_law_1399 C D hX hbl hbA hK18 _ _ h
        · refine ⟨1422, by decide, ?_⟩
          have h := h.2.2.2.2.2.2.2.2.2.2.2.2.2.2.2.2.2.2.2.2.2.2.2.2.2.2.2.2.2.2.2.2.2.2.2.1 (v_ieq 35 c (by decide))
          exact q_law_1422 C D hX hbl hbA hK18 _ _ h
        · refine ⟨1445, by decide, ?_⟩
          have h := h.2.2.2.2.2.2.2.2.2.2.2.2.2.2.2.2.2.2.2.2.2.2.2.2.2.2.2.2.2.2.2.2.2.2.2.2.1 (v_ieq 36 c (by decide))
          exact q_law_1445 C D hX hbl hbA hK18 _ _ h
        · refine ⟨1458, by decide, ?_⟩
          have h := h.2.2.2.2.2.2.2.2.2.2.2.2.2.2.2.2.2.2.2.2.2.2.2.2.2.2.2.2.2.2.2.2.2.2.2.2.2.1 (v_ieq 37 c (by decide))
          exact q_law_1458 C D hX hbl hbA hK18 _ _ h
        · refine ⟨1501, by decide, ?_⟩
          have h := h.2.2.2.2.2.2.2.2.2.2.2.2.2.2.2.2.2.2.2.2.2.2.2.2.2.2.2.2.2.2.2.2.2.2.2.2.2.2.1 (v_ieq 38 c (by decide))
          exact q_law_1501 C D hX hbl hbA hK18 _ _ h
        · refine ⟨1524, by decide, ?_⟩
          have h := h.2.2.2.2.2.2.2.2.2.2.2.2.2.2.2.2.2.2.2.2.2.2.2.2.2.2.2.2.2.2.2.2.2.2.2.2.2.2.2.1 (v_ieq 39 c (by decide))
          exact q_law_1524 C D hX hbl hbA hK18 _ _ h
        · refine ⟨1547, by decide, ?_⟩
          have h := h.2.2.2.2.2.2.2.2.2.2.2.2.2.2.2.2.2.2.2.2.2.2.2.2.2.2.2.2.2.2.2.2.2.2.2.2.2.2.2.2.1 (v_ieq 40 c (by decide))
          exact q_law_1547 C D hX hbl hbA hK18 _ _ h
        · refine ⟨1570, by decide, ?_⟩
          have h := h.2.2.2.2.2.2.2.2.2.2.2.2.2.2.2.2.2.2.2.2.2.2.2.2.2.2.2.2.2.2.2.2.2.2.2.2.2.2.2.2.2.1 (v_ieq 41 c (by decide))
          exact q_law_1570 C D hX hbl hbA hK18 _ _ h
        · refine ⟨1603, by decide, ?_⟩
          have h := h.2.2.2.2.2.2.2.2.2.2.2.2.2.2.2.2.2.2.2.2.2.2.2.2.2.2.2.2.2.2.2.2.2.2.2.2.2.2.2.2.2.2.1 (v_ieq 42 c (by decide))
          exact q_law_1603 C D hX hbl hbA hK18 _ _ h
        · refine ⟨1646, by decide, ?_⟩
          have h := h.2.2.2.2.2.2.2.2.2.2.2.2.2.2.2.2.2.2.2.2.2.2.2.2.2.2.2.2.2.2.2.2.2.2.2.2.2.2.2.2.2.2.2.1 (v_ieq 43 c (by decide))
          exact q_law_1646 C D hX hbl hbA hK18 _ _ h
        · refine ⟨1689, by decide, ?_⟩
          have h := h.2.2.2.2.2.2.2.2.2.2.2.2.2.2.2.2.2.2.2.2.2.2.2.2.2.2.2.2.2.2.2.2.2.2.2.2.2.2.2.2.2.2.2.2.1 (v_ieq 44 c (by decide))
          exact q_law_1689 C D hX hbl hbA hK18 _ _ h
        · refine ⟨1712, by decide, ?_⟩
          have h := h.2.2.2.2.2.2.2.2.2.2.2.2.2.2.2.2.2.2.2.2.2.2.2.2.2.2.2.2.2.2.2.2.2.2.2.2.2.2.2.2.2.2.2.2.2.1 (v_ieq 45 c (by decide))
          exact q_law_1712 C D hX hbl hbA hK18 _ _ h
        · refine ⟨1735, by decide, ?_⟩
          have h := h.2.2.2.2.2.2.2.2.2.2.2.2.2.2.2.2.2.2.2.2.2.2.2.2.2.2.2.2.2.2.2.2.2.2.2.2.2.2.2.2.2.2.2.2.2.2.1 (v_ieq 46 c (by decide))
          exact q_law_1735 C D hX hbl hbA hK18 _ _ h
        · refine ⟨1768, by decide, ?_⟩
          have h := h.2.2.2.2.2.2.2.2.2.2.2.2.2.2.2.2.2.2.2.2.2.2.2.2.2.2.2.2.2.2.2.2.2.2.2.2.2.2.2.2.2.2.2.2.2.2.2.1 (v_ieq 47 c (by decide))
          exact q_law_1768 C D hX hbl hbA hK18 _ _ h
        · refine ⟨1801, by decide, ?_⟩
          have h := h.2.2.2.2.2.2.2.2.2.2.2.2.2.2.2.2.2.2.2.2.2.2.2.2.2.2.2.2.2.2.2.2.2.2.2.2.2.2.2.2.2.2.2.2.2.2.2.2.1 (v_ieq 48 c (by decide))
          exact q_law_1801 C D hX hbl hbA hK18 _ _ h
        · refine ⟨1834, by decide, ?_⟩
          have h := h.2.2.2.2.2.2.2.2.2.2.2.2.2.2.2.2.2.2.2.2.2.2.2.2.2.2.2.2.2.2.2.2.2.2.2.2.2.2.2.2.2.2.2.2.2.2.2.2.2.1 (v_ieq 49 c (by decide))
          exact q_law_1834 C D hX hbl hbA hK18 _ _ h
        · refine ⟨1857, by decide, ?_⟩
          have h := h.2.2.2.2.2.2.2.2.2.2.2.2.2.2.2.2.2.2.2.2.2.2.2.2.2.2.2.2.2.2.2.2.2.2.2.2.2.2.2.2.2.2.2.2.2.2.2.2.2.2.1 (v_ieq 50 c (by decide))
          exact q_law_1857 C D hX hbl hbA hK18 _ _ h
        · refine ⟨1880, by decide, ?_⟩
          have h := h.2.2.2.2.2.2.2.2.2.2.2.2.2.2.2.2.2.2.2.2.2.2.2.2.2.2.2.2.2.2.2.2.2.2.2.2.2.2.2.2.2.2.2.2.2.2.2.2.2.2.2.1 (v_ieq 51 c (by decide))
          exact q_law_1880 C D hX hbl hbA hK18 _ _ h
        · refine ⟨1913, by decide, ?_⟩
          have h := h.2.2.2.2.2.2.2.2.2.2.2.2.2.2.2.2.2.2.2.2.2.2.2.2.2.2.2.2.2.2.2.2.2.2.2.2.2.2.2.2.2.2.2.2.2.2.2.2.2.2.2.2.1 (v_ieq 52 c (by decide))
          exact q_law_1913 C D hX hbl hbA hK18 _ _ h
        · refine ⟨1926, by decide, ?_⟩
          have h := h.2.2.2.2.2.2.2.2.2.2.2.2.2.2.2.2.2.2.2.2.2.2.2.2.2.2.2.2.2.2.2.2.2.2.2.2.2.2.2.2.2.2.2.2.2.2.2.2.2.2.2.2.2.1 (v_ieq 53 c (by decide))
          exact q_law_1926 C D hX hbl hbA hK18 _ _ h
